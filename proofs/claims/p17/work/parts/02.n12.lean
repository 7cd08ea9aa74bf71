theorem dX9_statutes_47 : decode cX9_statutes 47 = .ok (.iconst 3, 1) := by decide +kernel
theorem dX9_statutes_48 : decode cX9_statutes 48 = .ok (.goto 13, 3) := by decide +kernel
theorem dX9_statutes_51 : decode cX9_statutes 51 = .ok (.iload_n 1, 1) := by decide +kernel
theorem dX9_statutes_52 : decode cX9_statutes 52 = .ok (.iconst 2, 1) := by decide +kernel
theorem dX9_statutes_53 : decode cX9_statutes 53 = .ok (.if_icmp .ne 7, 3) := by decide +kernel
theorem dX9_statutes_56 : decode cX9_statutes 56 = .ok (.iconst 1, 1) := by decide +kernel
theorem dX9_statutes_57 : decode cX9_statutes 57 = .ok (.goto 4, 3) := by decide +kernel
theorem dX9_statutes_60 : decode cX9_statutes 60 = .ok (.iconst 0, 1) := by decide +kernel
theorem dX9_statutes_61 : decode cX9_statutes 61 = .ok (.iastore, 1) := by decide +kernel
theorem dX9_statutes_62 : decode cX9_statutes 62 = .ok (.iinc 1 1, 3) := by decide +kernel
theorem dX9_statutes_65 : decode cX9_statutes 65 = .ok (.goto (-49), 3) := by decide +kernel
theorem dX9_statutes_68 : decode cX9_statutes 68 = .ok (.iconst 0, 1) := by decide +kernel
theorem dX9_statutes_69 : decode cX9_statutes 69 = .ok (.istore_n 1, 1) := by decide +kernel
theorem dX9_statutes_70 : decode cX9_statutes 70 = .ok (.aload_n 0, 1) := by decide +kernel
theorem dX9_statutes_71 : decode cX9_statutes 71 = .ok (.invokevirtual 165, 3) := by decide +kernel
theorem dX9_statutes_74 : decode cX9_statutes 74 = .ok (.aload_n 0, 1) := by decide +kernel
theorem dX9_statutes_75 : decode cX9_statutes 75 = .ok (.getfield 135, 3) := by decide +kernel
theorem dX9_statutes_78 : decode cX9_statutes 78 = .ok (.ifCond .eq 23, 3) := by decide +kernel
theorem dX9_statutes_81 : decode cX9_statutes 81 = .ok (.aload_n 0, 1) := by decide +kernel
theorem dX9_statutes_82 : decode cX9_statutes 82 = .ok (.invokevirtual 168, 3) := by decide +kernel
theorem dX9_statutes_85 : decode cX9_statutes 85 = .ok (.ifCond .ne 10, 3) := by decide +kernel
theorem dX9_statutes_88 : decode cX9_statutes 88 = .ok (.iconst (-1), 1) := by decide +kernel
theorem dX9_statutes_89 : decode cX9_statutes 89 = .ok (.aload_n 0, 1) := by decide +kernel
theorem dX9_statutes_90 : decode cX9_statutes 90 = .ok (.getfield 155, 3) := by decide +kernel
theorem dX9_statutes_93 : decode cX9_statutes 93 = .ok (.isub, 1) := by decide +kernel
theorem dX9_statutes_94 : decode cX9_statutes 94 = .ok (.ireturn, 1) := by decide +kernel
theorem dX9_statutes_95 : decode cX9_statutes 95 = .ok (.iinc 1 1, 3) := by decide +kernel
theorem dX9_statutes_98 : decode cX9_statutes 98 = .ok (.goto (-24), 3) := by decide +kernel
theorem dX9_statutes_101 : decode cX9_statutes 101 = .ok (.iconst 0, 1) := by decide +kernel
theorem dX9_statutes_102 : decode cX9_statutes 102 = .ok (.istore_n 2, 1) := by decide +kernel
theorem dX9_statutes_103 : decode cX9_statutes 103 = .ok (.iload_n 2, 1) := by decide +kernel
theorem dX9_statutes_104 : decode cX9_statutes 104 = .ok (.bipush 6, 2) := by decide +kernel
theorem dX9_statutes_106 : decode cX9_statutes 106 = .ok (.if_icmp .ge 21, 3) := by decide +kernel
theorem dX9_statutes_109 : decode cX9_statutes 109 = .ok (.aload_n 0, 1) := by decide +kernel
theorem dX9_statutes_110 : decode cX9_statutes 110 = .ok (.getfield 13, 3) := by decide +kernel
theorem dX9_statutes_113 : decode cX9_statutes 113 = .ok (.iload_n 2, 1) := by decide +kernel
theorem dX9_statutes_114 : decode cX9_statutes 114 = .ok (.aload_n 0, 1) := by decide +kernel
theorem dX9_statutes_115 : decode cX9_statutes 115 = .ok (.getfield 17, 3) := by decide +kernel
theorem dX9_statutes_118 : decode cX9_statutes 118 = .ok (.iload_n 2, 1) := by decide +kernel
theorem dX9_statutes_119 : decode cX9_statutes 119 = .ok (.iaload, 1) := by decide +kernel
theorem dX9_statutes_120 : decode cX9_statutes 120 = .ok (.iastore, 1) := by decide +kernel
theorem dX9_statutes_121 : decode cX9_statutes 121 = .ok (.iinc 2 1, 3) := by decide +kernel
theorem dX9_statutes_124 : decode cX9_statutes 124 = .ok (.goto (-21), 3) := by decide +kernel
theorem dX9_statutes_127 : decode cX9_statutes 127 = .ok (.iload_n 1, 1) := by decide +kernel
theorem dX9_statutes_128 : decode cX9_statutes 128 = .ok (.ireturn, 1) := by decide +kernel
set_option maxRecDepth 20000 in
theorem ggX9_rule_X9_isWord : GoodIn wsX9_rule wsX9_isWord := goodIn_ca (lq_goor _ [14, 7, 15] rfl (by decide +kernel)) (goodIn_sub (fun _ h => List.mem_cons_of_mem _ (List.mem_append_right _ h)) gw_wsX90)
set_option maxRecDepth 20000 in
theorem gX9_rule_X9_isWord : GoodIn wsX9_rule (wsV RX9 174 RX9 yX9_isWord wsX9_isWord) := goodIn_app (lq_goor _ [10, 11, 12, 13] rfl (by decide +kernel)) ggX9_rule_X9_isWord
set_option maxRecDepth 20000 in
theorem ggX9_rule_X9_cant : GoodIn wsX9_rule wsX9_cant := goodIn_ca (lq_goor _ [19, 7, 6, 20, 21, 22, 13, 23, 24, 25] rfl (by decide +kernel)) (goodIn_sub (fun _ h => List.mem_cons_of_mem _ (List.mem_append_right _ h)) gw_wsX90)
set_option maxRecDepth 20000 in
theorem gX9_rule_X9_cant : GoodIn wsX9_rule (wsV RX9 184 RX9 yX9_cant wsX9_cant) := goodIn_app (lq_goor _ [16, 17, 18, 13] rfl (by decide +kernel)) ggX9_rule_X9_cant
set_option maxRecDepth 20000 in
theorem ggX9_rule_X9_wrong : GoodIn wsX9_rule wsX9_wrong := goodIn_ca (lq_goor _ [23, 24, 25] rfl (by decide +kernel)) (goodIn_sub (fun _ h => List.mem_cons_of_mem _ (List.mem_append_right _ h)) gw_wsX90)
set_option maxRecDepth 20000 in
theorem gX9_rule_X9_wrong : GoodIn wsX9_rule (wsV RX9 158 RX9 yX9_wrong wsX9_wrong) := goodIn_app (lq_goor _ [20, 21, 22, 13] rfl (by decide +kernel)) ggX9_rule_X9_wrong
set_option maxRecDepth 20000 in
theorem ggX9_rule_X9_next0 : GoodIn wsX9_rule wsX9_next0 := goodIn_ca (lq_goor _ [29, 30, 6, 7, 15, 8, 31, 32, 33, 13, 34, 35, 36, 37, 38, 39, 40, 41, 42] rfl (by decide +kernel)) (goodIn_sub (fun _ h => List.mem_cons_of_mem _ (List.mem_append_right _ h)) gw_wsX90)
set_option maxRecDepth 20000 in
theorem gX9_rule_X9_next0 : GoodIn wsX9_rule (wsV RX9 165 RX9 yX9_next0 wsX9_next0) := goodIn_app (lq_goor _ [26, 27, 28, 13] rfl (by decide +kernel)) ggX9_rule_X9_next0
theorem dX9_rule_0 : decode cX9_rule 0 = .ok (.aload_n 0, 1) := by decide +kernel
theorem dX9_rule_1 : decode cX9_rule 1 = .ok (.ldc2_w 172, 3) := by decide +kernel
theorem dX9_rule_4 : decode cX9_rule 4 = .ok (.invokevirtual 174, 3) := by decide +kernel
theorem dX9_rule_7 : decode cX9_rule 7 = .ok (.ifCond .eq 7, 3) := by decide +kernel
theorem dX9_rule_10 : decode cX9_rule 10 = .ok (.iconst 0, 1) := by decide +kernel
theorem dX9_rule_11 : decode cX9_rule 11 = .ok (.goto 46, 3) := by decide +kernel
theorem dX9_rule_14 : decode cX9_rule 14 = .ok (.aload_n 0, 1) := by decide +kernel
theorem dX9_rule_15 : decode cX9_rule 15 = .ok (.ldc2_w 178, 3) := by decide +kernel
theorem dX9_rule_18 : decode cX9_rule 18 = .ok (.invokevirtual 174, 3) := by decide +kernel
theorem dX9_rule_21 : decode cX9_rule 21 = .ok (.ifCond .eq 7, 3) := by decide +kernel
theorem dX9_rule_24 : decode cX9_rule 24 = .ok (.iconst 1, 1) := by decide +kernel
theorem dX9_rule_25 : decode cX9_rule 25 = .ok (.goto 32, 3) := by decide +kernel
theorem dX9_rule_28 : decode cX9_rule 28 = .ok (.aload_n 0, 1) := by decide +kernel
theorem dX9_rule_29 : decode cX9_rule 29 = .ok (.ldc2_w 180, 3) := by decide +kernel
theorem dX9_rule_32 : decode cX9_rule 32 = .ok (.invokevirtual 174, 3) := by decide +kernel
theorem dX9_rule_35 : decode cX9_rule 35 = .ok (.ifCond .eq 7, 3) := by decide +kernel
theorem dX9_rule_38 : decode cX9_rule 38 = .ok (.iconst 2, 1) := by decide +kernel
theorem dX9_rule_39 : decode cX9_rule 39 = .ok (.goto 18, 3) := by decide +kernel
theorem dX9_rule_42 : decode cX9_rule 42 = .ok (.aload_n 0, 1) := by decide +kernel
theorem dX9_rule_43 : decode cX9_rule 43 = .ok (.ldc2_w 182, 3) := by decide +kernel
theorem dX9_rule_46 : decode cX9_rule 46 = .ok (.invokevirtual 174, 3) := by decide +kernel
theorem dX9_rule_49 : decode cX9_rule 49 = .ok (.ifCond .eq 7, 3) := by decide +kernel
theorem dX9_rule_52 : decode cX9_rule 52 = .ok (.iconst 3, 1) := by decide +kernel
theorem dX9_rule_53 : decode cX9_rule 53 = .ok (.goto 4, 3) := by decide +kernel
theorem dX9_rule_56 : decode cX9_rule 56 = .ok (.iconst (-1), 1) := by decide +kernel
theorem dX9_rule_57 : decode cX9_rule 57 = .ok (.istore_n 1, 1) := by decide +kernel
theorem dX9_rule_58 : decode cX9_rule 58 = .ok (.iload_n 1, 1) := by decide +kernel
theorem dX9_rule_59 : decode cX9_rule 59 = .ok (.ifCond .ge 8, 3) := by decide +kernel
theorem dX9_rule_62 : decode cX9_rule 62 = .ok (.aload_n 0, 1) := by decide +kernel
theorem dX9_rule_63 : decode cX9_rule 63 = .ok (.invokevirtual 184, 3) := by decide +kernel
theorem dX9_rule_66 : decode cX9_rule 66 = .ok (.ireturn, 1) := by decide +kernel
theorem dX9_rule_67 : decode cX9_rule 67 = .ok (.iload_n 1, 1) := by decide +kernel
theorem dX9_rule_68 : decode cX9_rule 68 = .ok (.iconst 3, 1) := by decide +kernel
theorem dX9_rule_69 : decode cX9_rule 69 = .ok (.if_icmp .ge 22, 3) := by decide +kernel
theorem dX9_rule_72 : decode cX9_rule 72 = .ok (.aload_n 0, 1) := by decide +kernel
theorem dX9_rule_73 : decode cX9_rule 73 = .ok (.getfield 20, 3) := by decide +kernel
theorem dX9_rule_76 : decode cX9_rule 76 = .ok (.iload_n 1, 1) := by decide +kernel
theorem dX9_rule_77 : decode cX9_rule 77 = .ok (.baload, 1) := by decide +kernel
theorem dX9_rule_78 : decode cX9_rule 78 = .ok (.ifCond .eq 13, 3) := by decide +kernel
theorem dX9_rule_81 : decode cX9_rule 81 = .ok (.aload_n 0, 1) := by decide +kernel
theorem dX9_rule_82 : decode cX9_rule 82 = .ok (.iconst 4, 1) := by decide +kernel
theorem dX9_rule_83 : decode cX9_rule 83 = .ok (.aload_n 0, 1) := by decide +kernel
theorem dX9_rule_84 : decode cX9_rule 84 = .ok (.getfield 132, 3) := by decide +kernel
theorem dX9_rule_87 : decode cX9_rule 87 = .ok (.invokevirtual 158, 3) := by decide +kernel
theorem dX9_rule_90 : decode cX9_rule 90 = .ok (.ireturn, 1) := by decide +kernel
theorem dX9_rule_91 : decode cX9_rule 91 = .ok (.aload_n 0, 1) := by decide +kernel
theorem dX9_rule_92 : decode cX9_rule 92 = .ok (.invokevirtual 165, 3) := by decide +kernel
theorem dX9_rule_95 : decode cX9_rule 95 = .ok (.iload_n 1, 1) := by decide +kernel
theorem dX9_rule_96 : decode cX9_rule 96 = .ok (.iconst 3, 1) := by decide +kernel
theorem dX9_rule_97 : decode cX9_rule 97 = .ok (.if_icmp .ne 72, 3) := by decide +kernel
theorem dX9_rule_100 : decode cX9_rule 100 = .ok (.aload_n 0, 1) := by decide +kernel
theorem dX9_rule_101 : decode cX9_rule 101 = .ok (.getfield 135, 3) := by decide +kernel
theorem dX9_rule_104 : decode cX9_rule 104 = .ok (.iconst 2, 1) := by decide +kernel
theorem dX9_rule_105 : decode cX9_rule 105 = .ok (.if_icmp .eq 8, 3) := by decide +kernel
theorem dX9_rule_108 : decode cX9_rule 108 = .ok (.aload_n 0, 1) := by decide +kernel
theorem dX9_rule_109 : decode cX9_rule 109 = .ok (.invokevirtual 184, 3) := by decide +kernel
theorem dX9_rule_112 : decode cX9_rule 112 = .ok (.ireturn, 1) := by decide +kernel
theorem dX9_rule_113 : decode cX9_rule 113 = .ok (.aload_n 0, 1) := by decide +kernel
theorem dX9_rule_114 : decode cX9_rule 114 = .ok (.getfield 149, 3) := by decide +kernel
theorem dX9_rule_117 : decode cX9_rule 117 = .ok (.iconst 1, 1) := by decide +kernel
theorem dX9_rule_118 : decode cX9_rule 118 = .ok (.if_icmp .lt 11, 3) := by decide +kernel
theorem dX9_rule_121 : decode cX9_rule 121 = .ok (.aload_n 0, 1) := by decide +kernel
theorem dX9_rule_122 : decode cX9_rule 122 = .ok (.getfield 149, 3) := by decide +kernel
theorem dX9_rule_125 : decode cX9_rule 125 = .ok (.iconst 3, 1) := by decide +kernel
theorem dX9_rule_126 : decode cX9_rule 126 = .ok (.if_icmp .le 13, 3) := by decide +kernel
theorem dX9_rule_129 : decode cX9_rule 129 = .ok (.aload_n 0, 1) := by decide +kernel
theorem dX9_rule_130 : decode cX9_rule 130 = .ok (.iconst 3, 1) := by decide +kernel
theorem dX9_rule_131 : decode cX9_rule 131 = .ok (.aload_n 0, 1) := by decide +kernel
theorem dX9_rule_132 : decode cX9_rule 132 = .ok (.getfield 132, 3) := by decide +kernel
theorem dX9_rule_135 : decode cX9_rule 135 = .ok (.invokevirtual 158, 3) := by decide +kernel
theorem dX9_rule_138 : decode cX9_rule 138 = .ok (.ireturn, 1) := by decide +kernel
theorem dX9_rule_139 : decode cX9_rule 139 = .ok (.iconst 2, 1) := by decide +kernel
theorem dX9_rule_140 : decode cX9_rule 140 = .ok (.aload_n 0, 1) := by decide +kernel
theorem dX9_rule_141 : decode cX9_rule 141 = .ok (.getfield 149, 3) := by decide +kernel
theorem dX9_rule_144 : decode cX9_rule 144 = .ok (.iadd, 1) := by decide +kernel
theorem dX9_rule_145 : decode cX9_rule 145 = .ok (.istore_n 1, 1) := by decide +kernel
theorem dX9_rule_146 : decode cX9_rule 146 = .ok (.aload_n 0, 1) := by decide +kernel
theorem dX9_rule_147 : decode cX9_rule 147 = .ok (.getfield 20, 3) := by decide +kernel
theorem dX9_rule_150 : decode cX9_rule 150 = .ok (.iload_n 1, 1) := by decide +kernel
theorem dX9_rule_151 : decode cX9_rule 151 = .ok (.baload, 1) := by decide +kernel
theorem dX9_rule_152 : decode cX9_rule 152 = .ok (.ifCond .eq 13, 3) := by decide +kernel
theorem dX9_rule_155 : decode cX9_rule 155 = .ok (.aload_n 0, 1) := by decide +kernel
theorem dX9_rule_156 : decode cX9_rule 156 = .ok (.iconst 4, 1) := by decide +kernel
theorem dX9_rule_157 : decode cX9_rule 157 = .ok (.aload_n 0, 1) := by decide +kernel
theorem dX9_rule_158 : decode cX9_rule 158 = .ok (.getfield 132, 3) := by decide +kernel
theorem dX9_rule_161 : decode cX9_rule 161 = .ok (.invokevirtual 158, 3) := by decide +kernel
theorem dX9_rule_164 : decode cX9_rule 164 = .ok (.ireturn, 1) := by decide +kernel
theorem dX9_rule_165 : decode cX9_rule 165 = .ok (.aload_n 0, 1) := by decide +kernel
theorem dX9_rule_166 : decode cX9_rule 166 = .ok (.invokevirtual 165, 3) := by decide +kernel
theorem dX9_rule_169 : decode cX9_rule 169 = .ok (.aload_n 0, 1) := by decide +kernel
theorem dX9_rule_170 : decode cX9_rule 170 = .ok (.getfield 135, 3) := by decide +kernel
theorem dX9_rule_173 : decode cX9_rule 173 = .ok (.iconst 2, 1) := by decide +kernel
theorem dX9_rule_174 : decode cX9_rule 174 = .ok (.if_icmp .eq 8, 3) := by decide +kernel
theorem dX9_rule_177 : decode cX9_rule 177 = .ok (.aload_n 0, 1) := by decide +kernel
theorem dX9_rule_178 : decode cX9_rule 178 = .ok (.invokevirtual 184, 3) := by decide +kernel
theorem dX9_rule_181 : decode cX9_rule 181 = .ok (.ireturn, 1) := by decide +kernel
theorem dX9_rule_182 : decode cX9_rule 182 = .ok (.aload_n 0, 1) := by decide +kernel
theorem dX9_rule_183 : decode cX9_rule 183 = .ok (.getfield 149, 3) := by decide +kernel
theorem dX9_rule_186 : decode cX9_rule 186 = .ok (.iload_n 1, 1) := by decide +kernel
theorem dX9_rule_187 : decode cX9_rule 187 = .ok (.ifCond .ne 7, 3) := by decide +kernel
theorem dX9_rule_190 : decode cX9_rule 190 = .ok (.iconst 1, 1) := by decide +kernel
theorem dX9_rule_191 : decode cX9_rule 191 = .ok (.goto 4, 3) := by decide +kernel
theorem dX9_rule_194 : decode cX9_rule 194 = .ok (.iconst 0, 1) := by decide +kernel
theorem dX9_rule_195 : decode cX9_rule 195 = .ok (.if_icmp .lt 31, 3) := by decide +kernel
theorem dX9_rule_198 : decode cX9_rule 198 = .ok (.aload_n 0, 1) := by decide +kernel
theorem dX9_rule_199 : decode cX9_rule 199 = .ok (.getfield 149, 3) := by decide +kernel
theorem dX9_rule_202 : decode cX9_rule 202 = .ok (.iload_n 1, 1) := by decide +kernel
theorem dX9_rule_203 : decode cX9_rule 203 = .ok (.ifCond .ne 8, 3) := by decide +kernel
theorem dX9_rule_206 : decode cX9_rule 206 = .ok (.bipush 9, 2) := by decide +kernel
theorem dX9_rule_208 : decode cX9_rule 208 = .ok (.goto 15, 3) := by decide +kernel
theorem dX9_rule_211 : decode cX9_rule 211 = .ok (.iload_n 1, 1) := by decide +kernel
theorem dX9_rule_212 : decode cX9_rule 212 = .ok (.iconst 3, 1) := by decide +kernel
theorem dX9_rule_213 : decode cX9_rule 213 = .ok (.if_icmp .ge 8, 3) := by decide +kernel
theorem dX9_rule_216 : decode cX9_rule 216 = .ok (.bipush 50, 2) := by decide +kernel
theorem dX9_rule_218 : decode cX9_rule 218 = .ok (.goto 5, 3) := by decide +kernel
theorem dX9_rule_221 : decode cX9_rule 221 = .ok (.bipush 20, 2) := by decide +kernel
theorem dX9_rule_223 : decode cX9_rule 223 = .ok (.if_icmp .le 13, 3) := by decide +kernel
theorem dX9_rule_226 : decode cX9_rule 226 = .ok (.aload_n 0, 1) := by decide +kernel
theorem dX9_rule_227 : decode cX9_rule 227 = .ok (.iconst 3, 1) := by decide +kernel
theorem dX9_rule_228 : decode cX9_rule 228 = .ok (.aload_n 0, 1) := by decide +kernel
theorem dX9_rule_229 : decode cX9_rule 229 = .ok (.getfield 132, 3) := by decide +kernel
theorem dX9_rule_232 : decode cX9_rule 232 = .ok (.invokevirtual 158, 3) := by decide +kernel
theorem dX9_rule_235 : decode cX9_rule 235 = .ok (.ireturn, 1) := by decide +kernel
theorem dX9_rule_236 : decode cX9_rule 236 = .ok (.aload_n 0, 1) := by decide +kernel
theorem dX9_rule_237 : decode cX9_rule 237 = .ok (.getfield 17, 3) := by decide +kernel
theorem dX9_rule_240 : decode cX9_rule 240 = .ok (.iload_n 1, 1) := by decide +kernel
theorem dX9_rule_241 : decode cX9_rule 241 = .ok (.aload_n 0, 1) := by decide +kernel
theorem dX9_rule_242 : decode cX9_rule 242 = .ok (.getfield 149, 3) := by decide +kernel
theorem dX9_rule_245 : decode cX9_rule 245 = .ok (.iastore, 1) := by decide +kernel
theorem dX9_rule_246 : decode cX9_rule 246 = .ok (.aload_n 0, 1) := by decide +kernel
theorem dX9_rule_247 : decode cX9_rule 247 = .ok (.getfield 20, 3) := by decide +kernel
theorem dX9_rule_250 : decode cX9_rule 250 = .ok (.iload_n 1, 1) := by decide +kernel
theorem dX9_rule_251 : decode cX9_rule 251 = .ok (.iconst 1, 1) := by decide +kernel
theorem dX9_rule_252 : decode cX9_rule 252 = .ok (.bastore, 1) := by decide +kernel
theorem dX9_rule_253 : decode cX9_rule 253 = .ok (.aload_n 0, 1) := by decide +kernel
theorem dX9_rule_254 : decode cX9_rule 254 = .ok (.invokevirtual 165, 3) := by decide +kernel
theorem dX9_rule_257 : decode cX9_rule 257 = .ok (.aload_n 0, 1) := by decide +kernel
theorem dX9_rule_258 : decode cX9_rule 258 = .ok (.getfield 135, 3) := by decide +kernel
theorem dX9_rule_261 : decode cX9_rule 261 = .ok (.iconst 3, 1) := by decide +kernel
theorem dX9_rule_262 : decode cX9_rule 262 = .ok (.if_icmp .eq 8, 3) := by decide +kernel
theorem dX9_rule_265 : decode cX9_rule 265 = .ok (.aload_n 0, 1) := by decide +kernel
theorem dX9_rule_266 : decode cX9_rule 266 = .ok (.invokevirtual 184, 3) := by decide +kernel
theorem dX9_rule_269 : decode cX9_rule 269 = .ok (.ireturn, 1) := by decide +kernel
theorem dX9_rule_270 : decode cX9_rule 270 = .ok (.aload_n 0, 1) := by decide +kernel
theorem dX9_rule_271 : decode cX9_rule 271 = .ok (.invokevirtual 165, 3) := by decide +kernel
theorem dX9_rule_274 : decode cX9_rule 274 = .ok (.iconst 1, 1) := by decide +kernel
theorem dX9_rule_275 : decode cX9_rule 275 = .ok (.ireturn, 1) := by decide +kernel
theorem dX9_fault_0 : decode cX9_fault 0 = .ok (.aload_n 0, 1) := by decide +kernel
theorem dX9_fault_1 : decode cX9_fault 1 = .ok (.iconst 0, 1) := by decide +kernel
theorem dX9_fault_2 : decode cX9_fault 2 = .ok (.putfield 111, 3) := by decide +kernel
theorem dX9_fault_5 : decode cX9_fault 5 = .ok (.aload_n 0, 1) := by decide +kernel
theorem dX9_fault_6 : decode cX9_fault 6 = .ok (.getfield 152, 3) := by decide +kernel
theorem dX9_fault_9 : decode cX9_fault 9 = .ok (.ireturn, 1) := by decide +kernel
theorem dX9_isStation_0 : decode cX9_isStation 0 = .ok (.iload_n 0, 1) := by decide +kernel
theorem dX9_isStation_1 : decode cX9_isStation 1 = .ok (.ifCond .lt 13, 3) := by decide +kernel
theorem dX9_isStation_4 : decode cX9_isStation 4 = .ok (.iload_n 0, 1) := by decide +kernel
theorem dX9_isStation_5 : decode cX9_isStation 5 = .ok (.bipush 12, 2) := by decide +kernel
theorem dX9_isStation_7 : decode cX9_isStation 7 = .ok (.if_icmp .ge 7, 3) := by decide +kernel
theorem dX9_isStation_10 : decode cX9_isStation 10 = .ok (.iconst 1, 1) := by decide +kernel
theorem dX9_isStation_11 : decode cX9_isStation 11 = .ok (.goto 4, 3) := by decide +kernel
theorem dX9_isStation_14 : decode cX9_isStation 14 = .ok (.iconst 0, 1) := by decide +kernel
theorem dX9_isStation_15 : decode cX9_isStation 15 = .ok (.ireturn, 1) := by decide +kernel
theorem dX9_roadOf_0 : decode cX9_roadOf 0 = .ok (.aload_n 0, 1) := by decide +kernel
theorem dX9_roadOf_1 : decode cX9_roadOf 1 = .ok (.getfield 24, 3) := by decide +kernel
theorem dX9_roadOf_4 : decode cX9_roadOf 4 = .ok (.bipush 12, 2) := by decide +kernel
theorem dX9_roadOf_6 : decode cX9_roadOf 6 = .ok (.iload_n 1, 1) := by decide +kernel
theorem dX9_roadOf_7 : decode cX9_roadOf 7 = .ok (.imul, 1) := by decide +kernel
theorem dX9_roadOf_8 : decode cX9_roadOf 8 = .ok (.iload_n 2, 1) := by decide +kernel
theorem dX9_roadOf_9 : decode cX9_roadOf 9 = .ok (.iadd, 1) := by decide +kernel
theorem dX9_roadOf_10 : decode cX9_roadOf 10 = .ok (.iaload, 1) := by decide +kernel
theorem dX9_roadOf_11 : decode cX9_roadOf 11 = .ok (.ireturn, 1) := by decide +kernel
theorem dX9_timeOf_0 : decode cX9_timeOf 0 = .ok (.aload_n 0, 1) := by decide +kernel
theorem dX9_timeOf_1 : decode cX9_timeOf 1 = .ok (.getfield 24, 3) := by decide +kernel
theorem dX9_timeOf_4 : decode cX9_timeOf 4 = .ok (.bipush 12, 2) := by decide +kernel
theorem dX9_timeOf_6 : decode cX9_timeOf 6 = .ok (.iload_n 1, 1) := by decide +kernel
theorem dX9_timeOf_7 : decode cX9_timeOf 7 = .ok (.imul, 1) := by decide +kernel
theorem dX9_timeOf_8 : decode cX9_timeOf 8 = .ok (.iload_n 2, 1) := by decide +kernel
theorem dX9_timeOf_9 : decode cX9_timeOf 9 = .ok (.iadd, 1) := by decide +kernel
theorem dX9_timeOf_10 : decode cX9_timeOf 10 = .ok (.iaload, 1) := by decide +kernel
theorem dX9_timeOf_11 : decode cX9_timeOf 11 = .ok (.aload_n 0, 1) := by decide +kernel
theorem dX9_timeOf_12 : decode cX9_timeOf 12 = .ok (.getfield 27, 3) := by decide +kernel
theorem dX9_timeOf_15 : decode cX9_timeOf 15 = .ok (.bipush 12, 2) := by decide +kernel
theorem dX9_timeOf_17 : decode cX9_timeOf 17 = .ok (.iload_n 1, 1) := by decide +kernel
theorem dX9_timeOf_18 : decode cX9_timeOf 18 = .ok (.imul, 1) := by decide +kernel
theorem dX9_timeOf_19 : decode cX9_timeOf 19 = .ok (.iload_n 2, 1) := by decide +kernel
theorem dX9_timeOf_20 : decode cX9_timeOf 20 = .ok (.iadd, 1) := by decide +kernel
theorem dX9_timeOf_21 : decode cX9_timeOf 21 = .ok (.iaload, 1) := by decide +kernel
theorem dX9_timeOf_22 : decode cX9_timeOf 22 = .ok (.iadd, 1) := by decide +kernel
theorem dX9_timeOf_23 : decode cX9_timeOf 23 = .ok (.ireturn, 1) := by decide +kernel
set_option maxRecDepth 20000 in
theorem ggX9_road_X9_isStation : GoodIn wsX9_road wsX9_isStation := lq_goor _ [7] rfl (by decide +kernel)
set_option maxRecDepth 20000 in
theorem gX9_road_X9_isStation : GoodIn wsX9_road (va_wsS RX9 187 yX9_isStation wsX9_isStation) := goodIn_app (lq_goor _ [4, 5, 6] rfl (by decide +kernel)) ggX9_road_X9_isStation
theorem dX9_road_0 : decode cX9_road 0 = .ok (.aload_n 0, 1) := by decide +kernel
theorem dX9_road_1 : decode cX9_road 1 = .ok (.iconst 0, 1) := by decide +kernel
theorem dX9_road_2 : decode cX9_road 2 = .ok (.putfield 111, 3) := by decide +kernel
theorem dX9_road_5 : decode cX9_road 5 = .ok (.iload_n 1, 1) := by decide +kernel
theorem dX9_road_6 : decode cX9_road 6 = .ok (.invokestatic 187, 3) := by decide +kernel
theorem dX9_road_9 : decode cX9_road 9 = .ok (.ifCond .eq 25, 3) := by decide +kernel
theorem dX9_road_12 : decode cX9_road 12 = .ok (.iload_n 2, 1) := by decide +kernel
theorem dX9_road_13 : decode cX9_road 13 = .ok (.invokestatic 187, 3) := by decide +kernel
theorem dX9_road_16 : decode cX9_road 16 = .ok (.ifCond .eq 18, 3) := by decide +kernel
theorem dX9_road_19 : decode cX9_road 19 = .ok (.iload_n 1, 1) := by decide +kernel
theorem dX9_road_20 : decode cX9_road 20 = .ok (.iload_n 2, 1) := by decide +kernel
theorem dX9_road_21 : decode cX9_road 21 = .ok (.if_icmp .eq 13, 3) := by decide +kernel
theorem dX9_road_24 : decode cX9_road 24 = .ok (.iload_n 3, 1) := by decide +kernel
theorem dX9_road_25 : decode cX9_road 25 = .ok (.ifCond .lt 9, 3) := by decide +kernel
theorem dX9_road_28 : decode cX9_road 28 = .ok (.iload_n 3, 1) := by decide +kernel
theorem dX9_road_29 : decode cX9_road 29 = .ok (.bipush 24, 2) := by decide +kernel
theorem dX9_road_31 : decode cX9_road 31 = .ok (.if_icmp .le 5, 3) := by decide +kernel
theorem dX9_road_34 : decode cX9_road 34 = .ok (.iconst 0, 1) := by decide +kernel
theorem dX9_road_35 : decode cX9_road 35 = .ok (.ireturn, 1) := by decide +kernel
theorem dX9_road_36 : decode cX9_road 36 = .ok (.aload_n 0, 1) := by decide +kernel
theorem dX9_road_37 : decode cX9_road 37 = .ok (.getfield 24, 3) := by decide +kernel
theorem dX9_road_40 : decode cX9_road 40 = .ok (.bipush 12, 2) := by decide +kernel
theorem dX9_road_42 : decode cX9_road 42 = .ok (.iload_n 1, 1) := by decide +kernel
theorem dX9_road_43 : decode cX9_road 43 = .ok (.imul, 1) := by decide +kernel
theorem dX9_road_44 : decode cX9_road 44 = .ok (.iload_n 2, 1) := by decide +kernel
theorem dX9_road_45 : decode cX9_road 45 = .ok (.iadd, 1) := by decide +kernel
theorem dX9_road_46 : decode cX9_road 46 = .ok (.iload_n 3, 1) := by decide +kernel
theorem dX9_road_47 : decode cX9_road 47 = .ok (.iastore, 1) := by decide +kernel
theorem dX9_road_48 : decode cX9_road 48 = .ok (.aload_n 0, 1) := by decide +kernel
theorem dX9_road_49 : decode cX9_road 49 = .ok (.getfield 24, 3) := by decide +kernel
theorem dX9_road_52 : decode cX9_road 52 = .ok (.bipush 12, 2) := by decide +kernel
theorem dX9_road_54 : decode cX9_road 54 = .ok (.iload_n 2, 1) := by decide +kernel
theorem dX9_road_55 : decode cX9_road 55 = .ok (.imul, 1) := by decide +kernel
theorem dX9_road_56 : decode cX9_road 56 = .ok (.iload_n 1, 1) := by decide +kernel
theorem dX9_road_57 : decode cX9_road 57 = .ok (.iadd, 1) := by decide +kernel
theorem dX9_road_58 : decode cX9_road 58 = .ok (.iload_n 3, 1) := by decide +kernel
theorem dX9_road_59 : decode cX9_road 59 = .ok (.iastore, 1) := by decide +kernel
theorem dX9_road_60 : decode cX9_road 60 = .ok (.aload_n 0, 1) := by decide +kernel
theorem dX9_road_61 : decode cX9_road 61 = .ok (.getfield 27, 3) := by decide +kernel
theorem dX9_road_64 : decode cX9_road 64 = .ok (.bipush 12, 2) := by decide +kernel
theorem dX9_road_66 : decode cX9_road 66 = .ok (.iload_n 1, 1) := by decide +kernel
theorem dX9_road_67 : decode cX9_road 67 = .ok (.imul, 1) := by decide +kernel
theorem dX9_road_68 : decode cX9_road 68 = .ok (.iload_n 2, 1) := by decide +kernel
theorem dX9_road_69 : decode cX9_road 69 = .ok (.iadd, 1) := by decide +kernel
theorem dX9_road_70 : decode cX9_road 70 = .ok (.iconst 0, 1) := by decide +kernel
theorem dX9_road_71 : decode cX9_road 71 = .ok (.iastore, 1) := by decide +kernel
theorem dX9_road_72 : decode cX9_road 72 = .ok (.aload_n 0, 1) := by decide +kernel
theorem dX9_road_73 : decode cX9_road 73 = .ok (.getfield 27, 3) := by decide +kernel
theorem dX9_road_76 : decode cX9_road 76 = .ok (.bipush 12, 2) := by decide +kernel
theorem dX9_road_78 : decode cX9_road 78 = .ok (.iload_n 2, 1) := by decide +kernel
theorem dX9_road_79 : decode cX9_road 79 = .ok (.imul, 1) := by decide +kernel
theorem dX9_road_80 : decode cX9_road 80 = .ok (.iload_n 1, 1) := by decide +kernel
theorem dX9_road_81 : decode cX9_road 81 = .ok (.iadd, 1) := by decide +kernel
theorem dX9_road_82 : decode cX9_road 82 = .ok (.iconst 0, 1) := by decide +kernel
theorem dX9_road_83 : decode cX9_road 83 = .ok (.iastore, 1) := by decide +kernel
theorem dX9_road_84 : decode cX9_road 84 = .ok (.iconst 1, 1) := by decide +kernel
theorem dX9_road_85 : decode cX9_road 85 = .ok (.ireturn, 1) := by decide +kernel
set_option maxRecDepth 20000 in
theorem ggX9_snow_X9_isStation : GoodIn wsX9_snow wsX9_isStation := lq_goor _ [6] rfl (by decide +kernel)
set_option maxRecDepth 20000 in
theorem gX9_snow_X9_isStation : GoodIn wsX9_snow (va_wsS RX9 187 yX9_isStation wsX9_isStation) := goodIn_app (lq_goor _ [3, 4, 5] rfl (by decide +kernel)) ggX9_snow_X9_isStation
set_option maxRecDepth 20000 in
theorem ggX9_snow_X9_roadOf : GoodIn wsX9_snow wsX9_roadOf := goodIn_ca (lq_goor _ [10, 11] rfl (by decide +kernel)) (goodIn_sub (fun _ h => List.mem_cons_of_mem _ (List.mem_append_right _ h)) gw_wsX90)
set_option maxRecDepth 20000 in
theorem gX9_snow_X9_roadOf : GoodIn wsX9_snow (wsV RX9 190 RX9 yX9_roadOf wsX9_roadOf) := goodIn_app (lq_goor _ [7, 8, 9, 5] rfl (by decide +kernel)) ggX9_snow_X9_roadOf
theorem dX9_snow_0 : decode cX9_snow 0 = .ok (.aload_n 0, 1) := by decide +kernel
theorem dX9_snow_1 : decode cX9_snow 1 = .ok (.iconst 0, 1) := by decide +kernel
theorem dX9_snow_2 : decode cX9_snow 2 = .ok (.putfield 111, 3) := by decide +kernel
theorem dX9_snow_5 : decode cX9_snow 5 = .ok (.iload_n 1, 1) := by decide +kernel
theorem dX9_snow_6 : decode cX9_snow 6 = .ok (.invokestatic 187, 3) := by decide +kernel
theorem dX9_snow_9 : decode cX9_snow 9 = .ok (.ifCond .eq 29, 3) := by decide +kernel
theorem dX9_snow_12 : decode cX9_snow 12 = .ok (.iload_n 2, 1) := by decide +kernel
theorem dX9_snow_13 : decode cX9_snow 13 = .ok (.invokestatic 187, 3) := by decide +kernel
theorem dX9_snow_16 : decode cX9_snow 16 = .ok (.ifCond .eq 22, 3) := by decide +kernel
theorem dX9_snow_19 : decode cX9_snow 19 = .ok (.aload_n 0, 1) := by decide +kernel
theorem dX9_snow_20 : decode cX9_snow 20 = .ok (.iload_n 1, 1) := by decide +kernel
theorem dX9_snow_21 : decode cX9_snow 21 = .ok (.iload_n 2, 1) := by decide +kernel
theorem dX9_snow_22 : decode cX9_snow 22 = .ok (.invokevirtual 190, 3) := by decide +kernel
theorem dX9_snow_25 : decode cX9_snow 25 = .ok (.ifCond .eq 13, 3) := by decide +kernel
theorem dX9_snow_28 : decode cX9_snow 28 = .ok (.iload_n 3, 1) := by decide +kernel
theorem dX9_snow_29 : decode cX9_snow 29 = .ok (.ifCond .lt 9, 3) := by decide +kernel
theorem dX9_snow_32 : decode cX9_snow 32 = .ok (.iload_n 3, 1) := by decide +kernel
theorem dX9_snow_33 : decode cX9_snow 33 = .ok (.bipush 24, 2) := by decide +kernel
theorem dX9_snow_35 : decode cX9_snow 35 = .ok (.if_icmp .le 5, 3) := by decide +kernel
theorem dX9_snow_38 : decode cX9_snow 38 = .ok (.iconst 0, 1) := by decide +kernel
theorem dX9_snow_39 : decode cX9_snow 39 = .ok (.ireturn, 1) := by decide +kernel
theorem dX9_snow_40 : decode cX9_snow 40 = .ok (.aload_n 0, 1) := by decide +kernel
theorem dX9_snow_41 : decode cX9_snow 41 = .ok (.getfield 27, 3) := by decide +kernel
theorem dX9_snow_44 : decode cX9_snow 44 = .ok (.bipush 12, 2) := by decide +kernel
theorem dX9_snow_46 : decode cX9_snow 46 = .ok (.iload_n 1, 1) := by decide +kernel
theorem dX9_snow_47 : decode cX9_snow 47 = .ok (.imul, 1) := by decide +kernel
theorem dX9_snow_48 : decode cX9_snow 48 = .ok (.iload_n 2, 1) := by decide +kernel
theorem dX9_snow_49 : decode cX9_snow 49 = .ok (.iadd, 1) := by decide +kernel
theorem dX9_snow_50 : decode cX9_snow 50 = .ok (.iload_n 3, 1) := by decide +kernel
theorem dX9_snow_51 : decode cX9_snow 51 = .ok (.iastore, 1) := by decide +kernel
theorem dX9_snow_52 : decode cX9_snow 52 = .ok (.aload_n 0, 1) := by decide +kernel
theorem dX9_snow_53 : decode cX9_snow 53 = .ok (.getfield 27, 3) := by decide +kernel
theorem dX9_snow_56 : decode cX9_snow 56 = .ok (.bipush 12, 2) := by decide +kernel
theorem dX9_snow_58 : decode cX9_snow 58 = .ok (.iload_n 2, 1) := by decide +kernel
theorem dX9_snow_59 : decode cX9_snow 59 = .ok (.imul, 1) := by decide +kernel
theorem dX9_snow_60 : decode cX9_snow 60 = .ok (.iload_n 1, 1) := by decide +kernel
theorem dX9_snow_61 : decode cX9_snow 61 = .ok (.iadd, 1) := by decide +kernel
theorem dX9_snow_62 : decode cX9_snow 62 = .ok (.iload_n 3, 1) := by decide +kernel
theorem dX9_snow_63 : decode cX9_snow 63 = .ok (.iastore, 1) := by decide +kernel
theorem dX9_snow_64 : decode cX9_snow 64 = .ok (.iconst 1, 1) := by decide +kernel
theorem dX9_snow_65 : decode cX9_snow 65 = .ok (.ireturn, 1) := by decide +kernel
set_option maxRecDepth 20000 in
theorem ggX9_reach_X9_roadOf : GoodIn wsX9_reach wsX9_roadOf := goodIn_ca (lq_goor _ [7, 8] rfl (by decide +kernel)) (goodIn_sub (fun _ h => List.mem_cons_of_mem _ (List.mem_append_right _ h)) gw_wsX90)
set_option maxRecDepth 20000 in
theorem gX9_reach_X9_roadOf : GoodIn wsX9_reach (wsV RX9 190 RX9 yX9_roadOf wsX9_roadOf) := goodIn_app (lq_goor _ [3, 4, 5, 6] rfl (by decide +kernel)) ggX9_reach_X9_roadOf
set_option maxRecDepth 20000 in
theorem ggX9_reach_X9_timeOf : GoodIn wsX9_reach wsX9_timeOf := goodIn_ca (lq_goor _ [12, 8, 13] rfl (by decide +kernel)) (goodIn_sub (fun _ h => List.mem_cons_of_mem _ (List.mem_append_right _ h)) gw_wsX90)
set_option maxRecDepth 20000 in
theorem gX9_reach_X9_timeOf : GoodIn wsX9_reach (wsV RX9 195 RX9 yX9_timeOf wsX9_timeOf) := goodIn_app (lq_goor _ [9, 10, 11, 6] rfl (by decide +kernel)) ggX9_reach_X9_timeOf
theorem dX9_reach_0 : decode cX9_reach 0 = .ok (.iconst 0, 1) := by decide +kernel
theorem dX9_reach_1 : decode cX9_reach 1 = .ok (.istore_n 2, 1) := by decide +kernel
theorem dX9_reach_2 : decode cX9_reach 2 = .ok (.iload_n 2, 1) := by decide +kernel
theorem dX9_reach_3 : decode cX9_reach 3 = .ok (.bipush 12, 2) := by decide +kernel
theorem dX9_reach_5 : decode cX9_reach 5 = .ok (.if_icmp .ge 26, 3) := by decide +kernel
theorem dX9_reach_8 : decode cX9_reach 8 = .ok (.aload_n 0, 1) := by decide +kernel
theorem dX9_reach_9 : decode cX9_reach 9 = .ok (.getfield 30, 3) := by decide +kernel
theorem dX9_reach_12 : decode cX9_reach 12 = .ok (.iload_n 2, 1) := by decide +kernel
theorem dX9_reach_13 : decode cX9_reach 13 = .ok (.iload_n 2, 1) := by decide +kernel
theorem dX9_reach_14 : decode cX9_reach 14 = .ok (.iload_n 1, 1) := by decide +kernel
theorem dX9_reach_15 : decode cX9_reach 15 = .ok (.if_icmp .ne 7, 3) := by decide +kernel
theorem dX9_reach_18 : decode cX9_reach 18 = .ok (.iconst 0, 1) := by decide +kernel
theorem dX9_reach_19 : decode cX9_reach 19 = .ok (.goto 5, 3) := by decide +kernel
theorem dX9_reach_22 : decode cX9_reach 22 = .ok (.ldc 194, 2) := by decide +kernel
theorem dX9_reach_24 : decode cX9_reach 24 = .ok (.iastore, 1) := by decide +kernel
theorem dX9_reach_25 : decode cX9_reach 25 = .ok (.iinc 2 1, 3) := by decide +kernel
theorem dX9_reach_28 : decode cX9_reach 28 = .ok (.goto (-26), 3) := by decide +kernel
theorem dX9_reach_31 : decode cX9_reach 31 = .ok (.iconst 1, 1) := by decide +kernel
theorem dX9_reach_32 : decode cX9_reach 32 = .ok (.istore_n 2, 1) := by decide +kernel
theorem dX9_reach_33 : decode cX9_reach 33 = .ok (.iload_n 2, 1) := by decide +kernel
theorem dX9_reach_34 : decode cX9_reach 34 = .ok (.ifCond .eq 98, 3) := by decide +kernel
theorem dX9_reach_37 : decode cX9_reach 37 = .ok (.iconst 0, 1) := by decide +kernel
theorem dX9_reach_38 : decode cX9_reach 38 = .ok (.istore_n 2, 1) := by decide +kernel
theorem dX9_reach_39 : decode cX9_reach 39 = .ok (.iconst 0, 1) := by decide +kernel
theorem dX9_reach_40 : decode cX9_reach 40 = .ok (.istore_n 3, 1) := by decide +kernel
theorem dX9_reach_41 : decode cX9_reach 41 = .ok (.iload_n 3, 1) := by decide +kernel
theorem dX9_reach_42 : decode cX9_reach 42 = .ok (.bipush 12, 2) := by decide +kernel
theorem dX9_reach_44 : decode cX9_reach 44 = .ok (.if_icmp .ge 85, 3) := by decide +kernel
theorem dX9_reach_47 : decode cX9_reach 47 = .ok (.iconst 0, 1) := by decide +kernel
theorem dX9_reach_48 : decode cX9_reach 48 = .ok (.istore 4, 2) := by decide +kernel
theorem dX9_reach_50 : decode cX9_reach 50 = .ok (.iload 4, 2) := by decide +kernel
theorem dX9_reach_52 : decode cX9_reach 52 = .ok (.bipush 12, 2) := by decide +kernel
theorem dX9_reach_54 : decode cX9_reach 54 = .ok (.if_icmp .ge 69, 3) := by decide +kernel
theorem dX9_reach_57 : decode cX9_reach 57 = .ok (.aload_n 0, 1) := by decide +kernel
theorem dX9_reach_58 : decode cX9_reach 58 = .ok (.iload_n 3, 1) := by decide +kernel
theorem dX9_reach_59 : decode cX9_reach 59 = .ok (.iload 4, 2) := by decide +kernel
theorem dX9_reach_61 : decode cX9_reach 61 = .ok (.invokevirtual 190, 3) := by decide +kernel
theorem dX9_reach_64 : decode cX9_reach 64 = .ok (.ifCond .eq 53, 3) := by decide +kernel
theorem dX9_reach_67 : decode cX9_reach 67 = .ok (.aload_n 0, 1) := by decide +kernel
theorem dX9_reach_68 : decode cX9_reach 68 = .ok (.getfield 30, 3) := by decide +kernel
theorem dX9_reach_71 : decode cX9_reach 71 = .ok (.iload 4, 2) := by decide +kernel
theorem dX9_reach_73 : decode cX9_reach 73 = .ok (.iaload, 1) := by decide +kernel
theorem dX9_reach_74 : decode cX9_reach 74 = .ok (.aload_n 0, 1) := by decide +kernel
theorem dX9_reach_75 : decode cX9_reach 75 = .ok (.iload_n 3, 1) := by decide +kernel
theorem dX9_reach_76 : decode cX9_reach 76 = .ok (.iload 4, 2) := by decide +kernel
theorem dX9_reach_78 : decode cX9_reach 78 = .ok (.invokevirtual 195, 3) := by decide +kernel
theorem dX9_reach_81 : decode cX9_reach 81 = .ok (.iadd, 1) := by decide +kernel
theorem dX9_reach_82 : decode cX9_reach 82 = .ok (.aload_n 0, 1) := by decide +kernel
theorem dX9_reach_83 : decode cX9_reach 83 = .ok (.getfield 30, 3) := by decide +kernel
theorem dX9_reach_86 : decode cX9_reach 86 = .ok (.iload_n 3, 1) := by decide +kernel
theorem dX9_reach_87 : decode cX9_reach 87 = .ok (.iaload, 1) := by decide +kernel
theorem dX9_reach_88 : decode cX9_reach 88 = .ok (.if_icmp .lt 6, 3) := by decide +kernel
theorem dX9_reach_91 : decode cX9_reach 91 = .ok (.goto 26, 3) := by decide +kernel
theorem dX9_reach_94 : decode cX9_reach 94 = .ok (.aload_n 0, 1) := by decide +kernel
theorem dX9_reach_95 : decode cX9_reach 95 = .ok (.getfield 30, 3) := by decide +kernel
theorem dX9_reach_98 : decode cX9_reach 98 = .ok (.iload_n 3, 1) := by decide +kernel
theorem dX9_reach_99 : decode cX9_reach 99 = .ok (.aload_n 0, 1) := by decide +kernel
theorem dX9_reach_100 : decode cX9_reach 100 = .ok (.getfield 30, 3) := by decide +kernel
theorem dX9_reach_103 : decode cX9_reach 103 = .ok (.iload 4, 2) := by decide +kernel
theorem dX9_reach_105 : decode cX9_reach 105 = .ok (.iaload, 1) := by decide +kernel
theorem dX9_reach_106 : decode cX9_reach 106 = .ok (.aload_n 0, 1) := by decide +kernel
theorem dX9_reach_107 : decode cX9_reach 107 = .ok (.iload_n 3, 1) := by decide +kernel
theorem dX9_reach_108 : decode cX9_reach 108 = .ok (.iload 4, 2) := by decide +kernel
theorem dX9_reach_110 : decode cX9_reach 110 = .ok (.invokevirtual 195, 3) := by decide +kernel
theorem dX9_reach_113 : decode cX9_reach 113 = .ok (.iadd, 1) := by decide +kernel
theorem dX9_reach_114 : decode cX9_reach 114 = .ok (.iastore, 1) := by decide +kernel
theorem dX9_reach_115 : decode cX9_reach 115 = .ok (.iconst 1, 1) := by decide +kernel
theorem dX9_reach_116 : decode cX9_reach 116 = .ok (.istore_n 2, 1) := by decide +kernel
theorem dX9_reach_117 : decode cX9_reach 117 = .ok (.iinc 4 1, 3) := by decide +kernel
theorem dX9_reach_120 : decode cX9_reach 120 = .ok (.goto (-70), 3) := by decide +kernel
theorem dX9_reach_123 : decode cX9_reach 123 = .ok (.iinc 3 1, 3) := by decide +kernel
theorem dX9_reach_126 : decode cX9_reach 126 = .ok (.goto (-85), 3) := by decide +kernel
theorem dX9_reach_129 : decode cX9_reach 129 = .ok (.goto (-96), 3) := by decide +kernel
theorem dX9_reach_132 : decode cX9_reach 132 = .ok (.return_, 1) := by decide +kernel
set_option maxRecDepth 20000 in
theorem ggX9_hours_X9_isStation : GoodIn wsX9_hours wsX9_isStation := lq_goor _ [7] rfl (by decide +kernel)
set_option maxRecDepth 20000 in
theorem gX9_hours_X9_isStation : GoodIn wsX9_hours (va_wsS RX9 187 yX9_isStation wsX9_isStation) := goodIn_app (lq_goor _ [4, 5, 6] rfl (by decide +kernel)) ggX9_hours_X9_isStation
set_option maxRecDepth 20000 in
theorem ggX9_hours_X9_reach : GoodIn wsX9_hours wsX9_reach := goodIn_ca (lq_goor _ [11, 2, 3, 12, 13, 14, 6, 15, 16, 17, 18, 19, 20, 21] rfl (by decide +kernel)) (goodIn_sub (fun _ h => List.mem_cons_of_mem _ (List.mem_append_right _ h)) gw_wsX90)
set_option maxRecDepth 20000 in
theorem gX9_hours_X9_reach : GoodIn wsX9_hours (wsV RX9 198 RX9 yX9_reach wsX9_reach) := goodIn_app (lq_goor _ [8, 9, 10, 6] rfl (by decide +kernel)) ggX9_hours_X9_reach
theorem dX9_hours_0 : decode cX9_hours 0 = .ok (.aload_n 0, 1) := by decide +kernel
theorem dX9_hours_1 : decode cX9_hours 1 = .ok (.iconst 0, 1) := by decide +kernel
theorem dX9_hours_2 : decode cX9_hours 2 = .ok (.putfield 111, 3) := by decide +kernel
theorem dX9_hours_5 : decode cX9_hours 5 = .ok (.iload_n 1, 1) := by decide +kernel
theorem dX9_hours_6 : decode cX9_hours 6 = .ok (.invokestatic 187, 3) := by decide +kernel
theorem dX9_hours_9 : decode cX9_hours 9 = .ok (.ifCond .eq 10, 3) := by decide +kernel
theorem dX9_hours_12 : decode cX9_hours 12 = .ok (.iload_n 2, 1) := by decide +kernel
theorem dX9_hours_13 : decode cX9_hours 13 = .ok (.invokestatic 187, 3) := by decide +kernel
theorem dX9_hours_16 : decode cX9_hours 16 = .ok (.ifCond .ne 5, 3) := by decide +kernel
theorem dX9_hours_19 : decode cX9_hours 19 = .ok (.iconst (-1), 1) := by decide +kernel
theorem dX9_hours_20 : decode cX9_hours 20 = .ok (.ireturn, 1) := by decide +kernel
theorem dX9_hours_21 : decode cX9_hours 21 = .ok (.aload_n 0, 1) := by decide +kernel
theorem dX9_hours_22 : decode cX9_hours 22 = .ok (.iload_n 2, 1) := by decide +kernel
theorem dX9_hours_23 : decode cX9_hours 23 = .ok (.invokevirtual 198, 3) := by decide +kernel
theorem dX9_hours_26 : decode cX9_hours 26 = .ok (.aload_n 0, 1) := by decide +kernel
theorem dX9_hours_27 : decode cX9_hours 27 = .ok (.getfield 30, 3) := by decide +kernel
theorem dX9_hours_30 : decode cX9_hours 30 = .ok (.iload_n 1, 1) := by decide +kernel
theorem dX9_hours_31 : decode cX9_hours 31 = .ok (.iaload, 1) := by decide +kernel
theorem dX9_hours_32 : decode cX9_hours 32 = .ok (.ldc 194, 2) := by decide +kernel
theorem dX9_hours_34 : decode cX9_hours 34 = .ok (.if_icmp .lt 7, 3) := by decide +kernel
theorem dX9_hours_37 : decode cX9_hours 37 = .ok (.iconst (-1), 1) := by decide +kernel
theorem dX9_hours_38 : decode cX9_hours 38 = .ok (.goto 9, 3) := by decide +kernel
theorem dX9_hours_41 : decode cX9_hours 41 = .ok (.aload_n 0, 1) := by decide +kernel
theorem dX9_hours_42 : decode cX9_hours 42 = .ok (.getfield 30, 3) := by decide +kernel
theorem dX9_hours_45 : decode cX9_hours 45 = .ok (.iload_n 1, 1) := by decide +kernel
theorem dX9_hours_46 : decode cX9_hours 46 = .ok (.iaload, 1) := by decide +kernel
theorem dX9_hours_47 : decode cX9_hours 47 = .ok (.ireturn, 1) := by decide +kernel
set_option maxRecDepth 20000 in
theorem ggX9_fodder_X9_isStation : GoodIn wsX9_fodder wsX9_isStation := lq_goor _ [7] rfl (by decide +kernel)
set_option maxRecDepth 20000 in
theorem gX9_fodder_X9_isStation : GoodIn wsX9_fodder (va_wsS RX9 187 yX9_isStation wsX9_isStation) := goodIn_app (lq_goor _ [4, 5, 6] rfl (by decide +kernel)) ggX9_fodder_X9_isStation
theorem dX9_fodder_0 : decode cX9_fodder 0 = .ok (.aload_n 0, 1) := by decide +kernel
theorem dX9_fodder_1 : decode cX9_fodder 1 = .ok (.iconst 0, 1) := by decide +kernel
theorem dX9_fodder_2 : decode cX9_fodder 2 = .ok (.putfield 111, 3) := by decide +kernel
theorem dX9_fodder_5 : decode cX9_fodder 5 = .ok (.iload_n 1, 1) := by decide +kernel
theorem dX9_fodder_6 : decode cX9_fodder 6 = .ok (.invokestatic 187, 3) := by decide +kernel
theorem dX9_fodder_9 : decode cX9_fodder 9 = .ok (.ifCond .eq 28, 3) := by decide +kernel
theorem dX9_fodder_12 : decode cX9_fodder 12 = .ok (.iload_n 2, 1) := by decide +kernel
theorem dX9_fodder_13 : decode cX9_fodder 13 = .ok (.iconst 1, 1) := by decide +kernel
theorem dX9_fodder_14 : decode cX9_fodder 14 = .ok (.if_icmp .lt 23, 3) := by decide +kernel
theorem dX9_fodder_17 : decode cX9_fodder 17 = .ok (.iload_n 2, 1) := by decide +kernel
theorem dX9_fodder_18 : decode cX9_fodder 18 = .ok (.sipush 10000, 3) := by decide +kernel
theorem dX9_fodder_21 : decode cX9_fodder 21 = .ok (.if_icmp .gt 16, 3) := by decide +kernel
theorem dX9_fodder_24 : decode cX9_fodder 24 = .ok (.aload_n 0, 1) := by decide +kernel
theorem dX9_fodder_25 : decode cX9_fodder 25 = .ok (.getfield 33, 3) := by decide +kernel
theorem dX9_fodder_28 : decode cX9_fodder 28 = .ok (.iload_n 1, 1) := by decide +kernel
theorem dX9_fodder_29 : decode cX9_fodder 29 = .ok (.iaload, 1) := by decide +kernel
theorem dX9_fodder_30 : decode cX9_fodder 30 = .ok (.iload_n 2, 1) := by decide +kernel
theorem dX9_fodder_31 : decode cX9_fodder 31 = .ok (.iadd, 1) := by decide +kernel
theorem dX9_fodder_32 : decode cX9_fodder 32 = .ok (.ldc 201, 2) := by decide +kernel
theorem dX9_fodder_34 : decode cX9_fodder 34 = .ok (.if_icmp .le 5, 3) := by decide +kernel
theorem dX9_fodder_37 : decode cX9_fodder 37 = .ok (.iconst (-1), 1) := by decide +kernel
theorem dX9_fodder_38 : decode cX9_fodder 38 = .ok (.ireturn, 1) := by decide +kernel
theorem dX9_fodder_39 : decode cX9_fodder 39 = .ok (.aload_n 0, 1) := by decide +kernel
theorem dX9_fodder_40 : decode cX9_fodder 40 = .ok (.getfield 33, 3) := by decide +kernel
theorem dX9_fodder_43 : decode cX9_fodder 43 = .ok (.iload_n 1, 1) := by decide +kernel
theorem dX9_fodder_44 : decode cX9_fodder 44 = .ok (.dup2, 1) := by decide +kernel
theorem dX9_fodder_45 : decode cX9_fodder 45 = .ok (.iaload, 1) := by decide +kernel
theorem dX9_fodder_46 : decode cX9_fodder 46 = .ok (.iload_n 2, 1) := by decide +kernel
theorem dX9_fodder_47 : decode cX9_fodder 47 = .ok (.iadd, 1) := by decide +kernel
theorem dX9_fodder_48 : decode cX9_fodder 48 = .ok (.iastore, 1) := by decide +kernel
theorem dX9_fodder_49 : decode cX9_fodder 49 = .ok (.aload_n 0, 1) := by decide +kernel
theorem dX9_fodder_50 : decode cX9_fodder 50 = .ok (.getfield 33, 3) := by decide +kernel
theorem dX9_fodder_53 : decode cX9_fodder 53 = .ok (.iload_n 1, 1) := by decide +kernel
theorem dX9_fodder_54 : decode cX9_fodder 54 = .ok (.iaload, 1) := by decide +kernel
theorem dX9_fodder_55 : decode cX9_fodder 55 = .ok (.ireturn, 1) := by decide +kernel
set_option maxRecDepth 20000 in
theorem ggX9_horse_X9_isStation : GoodIn wsX9_horse wsX9_isStation := lq_goor _ [8] rfl (by decide +kernel)
set_option maxRecDepth 20000 in
theorem gX9_horse_X9_isStation : GoodIn wsX9_horse (va_wsS RX9 187 yX9_isStation wsX9_isStation) := goodIn_app (lq_goor _ [5, 6, 7] rfl (by decide +kernel)) ggX9_horse_X9_isStation
theorem dX9_horse_0 : decode cX9_horse 0 = .ok (.aload_n 0, 1) := by decide +kernel
theorem dX9_horse_1 : decode cX9_horse 1 = .ok (.iconst 0, 1) := by decide +kernel
theorem dX9_horse_2 : decode cX9_horse 2 = .ok (.putfield 111, 3) := by decide +kernel
theorem dX9_horse_5 : decode cX9_horse 5 = .ok (.aload_n 0, 1) := by decide +kernel
theorem dX9_horse_6 : decode cX9_horse 6 = .ok (.getfield 202, 3) := by decide +kernel
theorem dX9_horse_9 : decode cX9_horse 9 = .ok (.bipush 60, 2) := by decide +kernel
theorem dX9_horse_11 : decode cX9_horse 11 = .ok (.if_icmp .eq 20, 3) := by decide +kernel
theorem dX9_horse_14 : decode cX9_horse 14 = .ok (.iload_n 1, 1) := by decide +kernel
theorem dX9_horse_15 : decode cX9_horse 15 = .ok (.invokestatic 187, 3) := by decide +kernel
theorem dX9_horse_18 : decode cX9_horse 18 = .ok (.ifCond .eq 13, 3) := by decide +kernel
theorem dX9_horse_21 : decode cX9_horse 21 = .ok (.iload_n 2, 1) := by decide +kernel
theorem dX9_horse_22 : decode cX9_horse 22 = .ok (.ifCond .lt 9, 3) := by decide +kernel
theorem dX9_horse_25 : decode cX9_horse 25 = .ok (.iload_n 2, 1) := by decide +kernel
theorem dX9_horse_26 : decode cX9_horse 26 = .ok (.bipush 100, 2) := by decide +kernel
theorem dX9_horse_28 : decode cX9_horse 28 = .ok (.if_icmp .le 5, 3) := by decide +kernel
theorem dX9_horse_31 : decode cX9_horse 31 = .ok (.iconst (-1), 1) := by decide +kernel
theorem dX9_horse_32 : decode cX9_horse 32 = .ok (.ireturn, 1) := by decide +kernel
theorem dX9_horse_33 : decode cX9_horse 33 = .ok (.aload_n 0, 1) := by decide +kernel
theorem dX9_horse_34 : decode cX9_horse 34 = .ok (.getfield 36, 3) := by decide +kernel
theorem dX9_horse_37 : decode cX9_horse 37 = .ok (.aload_n 0, 1) := by decide +kernel
theorem dX9_horse_38 : decode cX9_horse 38 = .ok (.getfield 202, 3) := by decide +kernel
theorem dX9_horse_41 : decode cX9_horse 41 = .ok (.iload_n 2, 1) := by decide +kernel
theorem dX9_horse_42 : decode cX9_horse 42 = .ok (.iastore, 1) := by decide +kernel
theorem dX9_horse_43 : decode cX9_horse 43 = .ok (.aload_n 0, 1) := by decide +kernel
theorem dX9_horse_44 : decode cX9_horse 44 = .ok (.getfield 39, 3) := by decide +kernel
theorem dX9_horse_47 : decode cX9_horse 47 = .ok (.aload_n 0, 1) := by decide +kernel
theorem dX9_horse_48 : decode cX9_horse 48 = .ok (.getfield 202, 3) := by decide +kernel
theorem dX9_horse_51 : decode cX9_horse 51 = .ok (.iload_n 1, 1) := by decide +kernel
theorem dX9_horse_52 : decode cX9_horse 52 = .ok (.iastore, 1) := by decide +kernel
theorem dX9_horse_53 : decode cX9_horse 53 = .ok (.aload_n 0, 1) := by decide +kernel
theorem dX9_horse_54 : decode cX9_horse 54 = .ok (.dup, 1) := by decide +kernel
theorem dX9_horse_55 : decode cX9_horse 55 = .ok (.getfield 202, 3) := by decide +kernel
theorem dX9_horse_58 : decode cX9_horse 58 = .ok (.iconst 1, 1) := by decide +kernel
theorem dX9_horse_59 : decode cX9_horse 59 = .ok (.iadd, 1) := by decide +kernel
theorem dX9_horse_60 : decode cX9_horse 60 = .ok (.putfield 202, 3) := by decide +kernel
theorem dX9_horse_63 : decode cX9_horse 63 = .ok (.aload_n 0, 1) := by decide +kernel
theorem dX9_horse_64 : decode cX9_horse 64 = .ok (.getfield 202, 3) := by decide +kernel
theorem dX9_horse_67 : decode cX9_horse 67 = .ok (.iconst 1, 1) := by decide +kernel
theorem dX9_horse_68 : decode cX9_horse 68 = .ok (.isub, 1) := by decide +kernel
theorem dX9_horse_69 : decode cX9_horse 69 = .ok (.ireturn, 1) := by decide +kernel
theorem dX9_horsesAt_0 : decode cX9_horsesAt 0 = .ok (.iconst 0, 1) := by decide +kernel
theorem dX9_horsesAt_1 : decode cX9_horsesAt 1 = .ok (.istore_n 2, 1) := by decide +kernel
theorem dX9_horsesAt_2 : decode cX9_horsesAt 2 = .ok (.iconst 0, 1) := by decide +kernel
theorem dX9_horsesAt_3 : decode cX9_horsesAt 3 = .ok (.istore_n 3, 1) := by decide +kernel
theorem dX9_horsesAt_4 : decode cX9_horsesAt 4 = .ok (.iload_n 3, 1) := by decide +kernel
theorem dX9_horsesAt_5 : decode cX9_horsesAt 5 = .ok (.aload_n 0, 1) := by decide +kernel
theorem dX9_horsesAt_6 : decode cX9_horsesAt 6 = .ok (.getfield 202, 3) := by decide +kernel
theorem dX9_horsesAt_9 : decode cX9_horsesAt 9 = .ok (.if_icmp .ge 27, 3) := by decide +kernel
theorem dX9_horsesAt_12 : decode cX9_horsesAt 12 = .ok (.iload_n 2, 1) := by decide +kernel
theorem dX9_horsesAt_13 : decode cX9_horsesAt 13 = .ok (.aload_n 0, 1) := by decide +kernel
theorem dX9_horsesAt_14 : decode cX9_horsesAt 14 = .ok (.getfield 39, 3) := by decide +kernel
theorem dX9_horsesAt_17 : decode cX9_horsesAt 17 = .ok (.iload_n 3, 1) := by decide +kernel
theorem dX9_horsesAt_18 : decode cX9_horsesAt 18 = .ok (.iaload, 1) := by decide +kernel
theorem dX9_horsesAt_19 : decode cX9_horsesAt 19 = .ok (.iload_n 1, 1) := by decide +kernel
theorem dX9_horsesAt_20 : decode cX9_horsesAt 20 = .ok (.if_icmp .ne 7, 3) := by decide +kernel
theorem dX9_horsesAt_23 : decode cX9_horsesAt 23 = .ok (.iconst 1, 1) := by decide +kernel
theorem dX9_horsesAt_24 : decode cX9_horsesAt 24 = .ok (.goto 4, 3) := by decide +kernel
theorem dX9_horsesAt_27 : decode cX9_horsesAt 27 = .ok (.iconst 0, 1) := by decide +kernel
theorem dX9_horsesAt_28 : decode cX9_horsesAt 28 = .ok (.iadd, 1) := by decide +kernel
theorem dX9_horsesAt_29 : decode cX9_horsesAt 29 = .ok (.istore_n 2, 1) := by decide +kernel
theorem dX9_horsesAt_30 : decode cX9_horsesAt 30 = .ok (.iinc 3 1, 3) := by decide +kernel
theorem dX9_horsesAt_33 : decode cX9_horsesAt 33 = .ok (.goto (-29), 3) := by decide +kernel
theorem dX9_horsesAt_36 : decode cX9_horsesAt 36 = .ok (.iload_n 2, 1) := by decide +kernel
theorem dX9_horsesAt_37 : decode cX9_horsesAt 37 = .ok (.ireturn, 1) := by decide +kernel
theorem dX9_strongest_0 : decode cX9_strongest 0 = .ok (.iconst (-1), 1) := by decide +kernel
theorem dX9_strongest_1 : decode cX9_strongest 1 = .ok (.istore_n 2, 1) := by decide +kernel
theorem dX9_strongest_2 : decode cX9_strongest 2 = .ok (.iconst 0, 1) := by decide +kernel
theorem dX9_strongest_3 : decode cX9_strongest 3 = .ok (.istore_n 3, 1) := by decide +kernel
theorem dX9_strongest_4 : decode cX9_strongest 4 = .ok (.iload_n 3, 1) := by decide +kernel
theorem dX9_strongest_5 : decode cX9_strongest 5 = .ok (.aload_n 0, 1) := by decide +kernel
theorem dX9_strongest_6 : decode cX9_strongest 6 = .ok (.getfield 202, 3) := by decide +kernel
theorem dX9_strongest_9 : decode cX9_strongest 9 = .ok (.if_icmp .ge 40, 3) := by decide +kernel
theorem dX9_strongest_12 : decode cX9_strongest 12 = .ok (.aload_n 0, 1) := by decide +kernel
theorem dX9_strongest_13 : decode cX9_strongest 13 = .ok (.getfield 39, 3) := by decide +kernel
theorem dX9_strongest_16 : decode cX9_strongest 16 = .ok (.iload_n 3, 1) := by decide +kernel
theorem dX9_strongest_17 : decode cX9_strongest 17 = .ok (.iaload, 1) := by decide +kernel
theorem dX9_strongest_18 : decode cX9_strongest 18 = .ok (.iload_n 1, 1) := by decide +kernel
theorem dX9_strongest_19 : decode cX9_strongest 19 = .ok (.if_icmp .ne 24, 3) := by decide +kernel
theorem dX9_strongest_22 : decode cX9_strongest 22 = .ok (.iload_n 2, 1) := by decide +kernel
theorem dX9_strongest_23 : decode cX9_strongest 23 = .ok (.ifCond .lt 18, 3) := by decide +kernel
theorem dX9_strongest_26 : decode cX9_strongest 26 = .ok (.aload_n 0, 1) := by decide +kernel
theorem dX9_strongest_27 : decode cX9_strongest 27 = .ok (.getfield 36, 3) := by decide +kernel
theorem dX9_strongest_30 : decode cX9_strongest 30 = .ok (.iload_n 3, 1) := by decide +kernel
theorem dX9_strongest_31 : decode cX9_strongest 31 = .ok (.iaload, 1) := by decide +kernel
theorem dX9_strongest_32 : decode cX9_strongest 32 = .ok (.aload_n 0, 1) := by decide +kernel
theorem dX9_strongest_33 : decode cX9_strongest 33 = .ok (.getfield 36, 3) := by decide +kernel
theorem dX9_strongest_36 : decode cX9_strongest 36 = .ok (.iload_n 2, 1) := by decide +kernel
theorem dX9_strongest_37 : decode cX9_strongest 37 = .ok (.iaload, 1) := by decide +kernel
theorem dX9_strongest_38 : decode cX9_strongest 38 = .ok (.if_icmp .le 5, 3) := by decide +kernel
theorem dX9_strongest_41 : decode cX9_strongest 41 = .ok (.iload_n 3, 1) := by decide +kernel
theorem dX9_strongest_42 : decode cX9_strongest 42 = .ok (.istore_n 2, 1) := by decide +kernel
theorem dX9_strongest_43 : decode cX9_strongest 43 = .ok (.iinc 3 1, 3) := by decide +kernel
theorem dX9_strongest_46 : decode cX9_strongest 46 = .ok (.goto (-42), 3) := by decide +kernel
theorem dX9_strongest_49 : decode cX9_strongest 49 = .ok (.iload_n 2, 1) := by decide +kernel
theorem dX9_strongest_50 : decode cX9_strongest 50 = .ok (.ireturn, 1) := by decide +kernel
theorem dX9_isTablet_0 : decode cX9_isTablet 0 = .ok (.iload_n 1, 1) := by decide +kernel
theorem dX9_isTablet_1 : decode cX9_isTablet 1 = .ok (.ifCond .lt 15, 3) := by decide +kernel
theorem dX9_isTablet_4 : decode cX9_isTablet 4 = .ok (.iload_n 1, 1) := by decide +kernel
theorem dX9_isTablet_5 : decode cX9_isTablet 5 = .ok (.aload_n 0, 1) := by decide +kernel
theorem dX9_isTablet_6 : decode cX9_isTablet 6 = .ok (.getfield 205, 3) := by decide +kernel
theorem dX9_isTablet_9 : decode cX9_isTablet 9 = .ok (.if_icmp .ge 7, 3) := by decide +kernel
theorem dX9_isTablet_12 : decode cX9_isTablet 12 = .ok (.iconst 1, 1) := by decide +kernel
theorem dX9_isTablet_13 : decode cX9_isTablet 13 = .ok (.goto 4, 3) := by decide +kernel
theorem dX9_isTablet_16 : decode cX9_isTablet 16 = .ok (.iconst 0, 1) := by decide +kernel
theorem dX9_isTablet_17 : decode cX9_isTablet 17 = .ok (.ireturn, 1) := by decide +kernel
theorem dX9_isRider_0 : decode cX9_isRider 0 = .ok (.iload_n 1, 1) := by decide +kernel
theorem dX9_isRider_1 : decode cX9_isRider 1 = .ok (.ifCond .lt 15, 3) := by decide +kernel
theorem dX9_isRider_4 : decode cX9_isRider 4 = .ok (.iload_n 1, 1) := by decide +kernel
theorem dX9_isRider_5 : decode cX9_isRider 5 = .ok (.aload_n 0, 1) := by decide +kernel
theorem dX9_isRider_6 : decode cX9_isRider 6 = .ok (.getfield 208, 3) := by decide +kernel
theorem dX9_isRider_9 : decode cX9_isRider 9 = .ok (.if_icmp .ge 7, 3) := by decide +kernel
theorem dX9_isRider_12 : decode cX9_isRider 12 = .ok (.iconst 1, 1) := by decide +kernel
theorem dX9_isRider_13 : decode cX9_isRider 13 = .ok (.goto 4, 3) := by decide +kernel
theorem dX9_isRider_16 : decode cX9_isRider 16 = .ok (.iconst 0, 1) := by decide +kernel
theorem dX9_isRider_17 : decode cX9_isRider 17 = .ok (.ireturn, 1) := by decide +kernel
theorem dX9_tablet_0 : decode cX9_tablet 0 = .ok (.aload_n 0, 1) := by decide +kernel
theorem dX9_tablet_1 : decode cX9_tablet 1 = .ok (.iconst 0, 1) := by decide +kernel
theorem dX9_tablet_2 : decode cX9_tablet 2 = .ok (.putfield 111, 3) := by decide +kernel
theorem dX9_tablet_5 : decode cX9_tablet 5 = .ok (.aload_n 0, 1) := by decide +kernel
theorem dX9_tablet_6 : decode cX9_tablet 6 = .ok (.getfield 205, 3) := by decide +kernel
theorem dX9_tablet_9 : decode cX9_tablet 9 = .ok (.bipush 20, 2) := by decide +kernel
theorem dX9_tablet_11 : decode cX9_tablet 11 = .ok (.if_icmp .eq 13, 3) := by decide +kernel
theorem dX9_tablet_14 : decode cX9_tablet 14 = .ok (.iload_n 1, 1) := by decide +kernel
theorem dX9_tablet_15 : decode cX9_tablet 15 = .ok (.iconst 1, 1) := by decide +kernel
theorem dX9_tablet_16 : decode cX9_tablet 16 = .ok (.if_icmp .lt 8, 3) := by decide +kernel
theorem dX9_tablet_19 : decode cX9_tablet 19 = .ok (.iload_n 1, 1) := by decide +kernel
theorem dX9_tablet_20 : decode cX9_tablet 20 = .ok (.iconst 3, 1) := by decide +kernel
theorem dX9_tablet_21 : decode cX9_tablet 21 = .ok (.if_icmp .le 5, 3) := by decide +kernel
theorem dX9_tablet_24 : decode cX9_tablet 24 = .ok (.iconst (-1), 1) := by decide +kernel
theorem dX9_tablet_25 : decode cX9_tablet 25 = .ok (.ireturn, 1) := by decide +kernel
theorem dX9_tablet_26 : decode cX9_tablet 26 = .ok (.aload_n 0, 1) := by decide +kernel
theorem dX9_tablet_27 : decode cX9_tablet 27 = .ok (.getfield 42, 3) := by decide +kernel
theorem dX9_tablet_30 : decode cX9_tablet 30 = .ok (.aload_n 0, 1) := by decide +kernel
theorem dX9_tablet_31 : decode cX9_tablet 31 = .ok (.getfield 205, 3) := by decide +kernel
theorem dX9_tablet_34 : decode cX9_tablet 34 = .ok (.iload_n 1, 1) := by decide +kernel
theorem dX9_tablet_35 : decode cX9_tablet 35 = .ok (.iastore, 1) := by decide +kernel
theorem dX9_tablet_36 : decode cX9_tablet 36 = .ok (.iconst 0, 1) := by decide +kernel
theorem dX9_tablet_37 : decode cX9_tablet 37 = .ok (.istore_n 2, 1) := by decide +kernel
theorem dX9_tablet_38 : decode cX9_tablet 38 = .ok (.iload_n 2, 1) := by decide +kernel
theorem dX9_tablet_39 : decode cX9_tablet 39 = .ok (.bipush 12, 2) := by decide +kernel
theorem dX9_tablet_41 : decode cX9_tablet 41 = .ok (.if_icmp .ge 24, 3) := by decide +kernel
theorem dX9_tablet_44 : decode cX9_tablet 44 = .ok (.aload_n 0, 1) := by decide +kernel
theorem dX9_tablet_45 : decode cX9_tablet 45 = .ok (.getfield 45, 3) := by decide +kernel
theorem dX9_tablet_48 : decode cX9_tablet 48 = .ok (.bipush 12, 2) := by decide +kernel
theorem dX9_tablet_50 : decode cX9_tablet 50 = .ok (.aload_n 0, 1) := by decide +kernel
theorem dX9_tablet_51 : decode cX9_tablet 51 = .ok (.getfield 205, 3) := by decide +kernel
theorem dX9_tablet_54 : decode cX9_tablet 54 = .ok (.imul, 1) := by decide +kernel
theorem dX9_tablet_55 : decode cX9_tablet 55 = .ok (.iload_n 2, 1) := by decide +kernel
theorem dX9_tablet_56 : decode cX9_tablet 56 = .ok (.iadd, 1) := by decide +kernel
theorem dX9_tablet_57 : decode cX9_tablet 57 = .ok (.iconst (-1), 1) := by decide +kernel
theorem dX9_tablet_58 : decode cX9_tablet 58 = .ok (.iastore, 1) := by decide +kernel
theorem dX9_tablet_59 : decode cX9_tablet 59 = .ok (.iinc 2 1, 3) := by decide +kernel
theorem dX9_tablet_62 : decode cX9_tablet 62 = .ok (.goto (-24), 3) := by decide +kernel
theorem dX9_tablet_65 : decode cX9_tablet 65 = .ok (.aload_n 0, 1) := by decide +kernel
theorem dX9_tablet_66 : decode cX9_tablet 66 = .ok (.dup, 1) := by decide +kernel
theorem dX9_tablet_67 : decode cX9_tablet 67 = .ok (.getfield 205, 3) := by decide +kernel
theorem dX9_tablet_70 : decode cX9_tablet 70 = .ok (.iconst 1, 1) := by decide +kernel
theorem dX9_tablet_71 : decode cX9_tablet 71 = .ok (.iadd, 1) := by decide +kernel
theorem dX9_tablet_72 : decode cX9_tablet 72 = .ok (.putfield 205, 3) := by decide +kernel
theorem dX9_tablet_75 : decode cX9_tablet 75 = .ok (.aload_n 0, 1) := by decide +kernel
theorem dX9_tablet_76 : decode cX9_tablet 76 = .ok (.getfield 205, 3) := by decide +kernel
theorem dX9_tablet_79 : decode cX9_tablet 79 = .ok (.iconst 1, 1) := by decide +kernel
theorem dX9_tablet_80 : decode cX9_tablet 80 = .ok (.isub, 1) := by decide +kernel
theorem dX9_tablet_81 : decode cX9_tablet 81 = .ok (.ireturn, 1) := by decide +kernel
theorem dX9_isOnWay_0 : decode cX9_isOnWay 0 = .ok (.aload_n 0, 1) := by decide +kernel
theorem dX9_isOnWay_1 : decode cX9_isOnWay 1 = .ok (.getfield 60, 3) := by decide +kernel
theorem dX9_isOnWay_4 : decode cX9_isOnWay 4 = .ok (.iload_n 1, 1) := by decide +kernel
theorem dX9_isOnWay_5 : decode cX9_isOnWay 5 = .ok (.iaload, 1) := by decide +kernel
theorem dX9_isOnWay_6 : decode cX9_isOnWay 6 = .ok (.ifCond .eq 13, 3) := by decide +kernel
theorem dX9_isOnWay_9 : decode cX9_isOnWay 9 = .ok (.aload_n 0, 1) := by decide +kernel
theorem dX9_isOnWay_10 : decode cX9_isOnWay 10 = .ok (.getfield 60, 3) := by decide +kernel
theorem dX9_isOnWay_13 : decode cX9_isOnWay 13 = .ok (.iload_n 1, 1) := by decide +kernel
theorem dX9_isOnWay_14 : decode cX9_isOnWay 14 = .ok (.iaload, 1) := by decide +kernel
theorem dX9_isOnWay_15 : decode cX9_isOnWay 15 = .ok (.iconst 1, 1) := by decide +kernel
theorem dX9_isOnWay_16 : decode cX9_isOnWay 16 = .ok (.if_icmp .ne 7, 3) := by decide +kernel
theorem dX9_isOnWay_19 : decode cX9_isOnWay 19 = .ok (.iconst 1, 1) := by decide +kernel
theorem dX9_isOnWay_20 : decode cX9_isOnWay 20 = .ok (.goto 4, 3) := by decide +kernel
theorem dX9_isOnWay_23 : decode cX9_isOnWay 23 = .ok (.iconst 0, 1) := by decide +kernel
theorem dX9_isOnWay_24 : decode cX9_isOnWay 24 = .ok (.ireturn, 1) := by decide +kernel
set_option maxRecDepth 20000 in
theorem ggX9_ride_X9_isTablet : GoodIn wsX9_ride wsX9_isTablet := goodIn_ca (lq_goor _ [18, 19] rfl (by decide +kernel)) (goodIn_sub (fun _ h => List.mem_cons_of_mem _ (List.mem_append_right _ h)) gw_wsX90)
set_option maxRecDepth 20000 in
theorem gX9_ride_X9_isTablet : GoodIn wsX9_ride (wsV RX9 211 RX9 yX9_isTablet wsX9_isTablet) := goodIn_app (lq_goor _ [14, 15, 16, 17] rfl (by decide +kernel)) ggX9_ride_X9_isTablet
set_option maxRecDepth 20000 in
theorem ggX9_ride_X9_isStation : GoodIn wsX9_ride wsX9_isStation := lq_goor _ [22] rfl (by decide +kernel)
set_option maxRecDepth 20000 in
theorem gX9_ride_X9_isStation : GoodIn wsX9_ride (va_wsS RX9 187 yX9_isStation wsX9_isStation) := goodIn_app (lq_goor _ [20, 21, 17] rfl (by decide +kernel)) ggX9_ride_X9_isStation
set_option maxRecDepth 20000 in
theorem ggX9_ride_X9_isOnWay : GoodIn wsX9_ride wsX9_isOnWay := goodIn_ca (lq_goor _ [26, 12] rfl (by decide +kernel)) (goodIn_sub (fun _ h => List.mem_cons_of_mem _ (List.mem_append_right _ h)) gw_wsX90)
set_option maxRecDepth 20000 in
theorem gX9_ride_X9_isOnWay : GoodIn wsX9_ride (wsV RX9 214 RX9 yX9_isOnWay wsX9_isOnWay) := goodIn_app (lq_goor _ [23, 24, 25, 17] rfl (by decide +kernel)) ggX9_ride_X9_isOnWay
set_option maxRecDepth 20000 in
theorem ggX9_ride_X9_reach : GoodIn wsX9_ride wsX9_reach := goodIn_ca (lq_goor _ [30, 4, 5, 31, 32, 33, 17, 34, 35, 36, 37, 38, 39, 40] rfl (by decide +kernel)) (goodIn_sub (fun _ h => List.mem_cons_of_mem _ (List.mem_append_right _ h)) gw_wsX90)
set_option maxRecDepth 20000 in
theorem gX9_ride_X9_reach : GoodIn wsX9_ride (wsV RX9 198 RX9 yX9_reach wsX9_reach) := goodIn_app (lq_goor _ [27, 28, 29, 17] rfl (by decide +kernel)) ggX9_ride_X9_reach
set_option maxRecDepth 20000 in
theorem ggX9_ride_X9_roadOf : GoodIn wsX9_ride wsX9_roadOf := goodIn_ca (lq_goor _ [34, 35] rfl (by decide +kernel)) (goodIn_sub (fun _ h => List.mem_cons_of_mem _ (List.mem_append_right _ h)) gw_wsX90)
set_option maxRecDepth 20000 in
theorem gX9_ride_X9_roadOf : GoodIn wsX9_ride (wsV RX9 190 RX9 yX9_roadOf wsX9_roadOf) := goodIn_app (lq_goor _ [31, 32, 33, 17] rfl (by decide +kernel)) ggX9_ride_X9_roadOf
set_option maxRecDepth 20000 in
theorem ggX9_ride_X9_timeOf : GoodIn wsX9_ride wsX9_timeOf := goodIn_ca (lq_goor _ [39, 35, 40] rfl (by decide +kernel)) (goodIn_sub (fun _ h => List.mem_cons_of_mem _ (List.mem_append_right _ h)) gw_wsX90)
set_option maxRecDepth 20000 in
theorem gX9_ride_X9_timeOf : GoodIn wsX9_ride (wsV RX9 195 RX9 yX9_timeOf wsX9_timeOf) := goodIn_app (lq_goor _ [36, 37, 38, 17] rfl (by decide +kernel)) ggX9_ride_X9_timeOf
theorem dX9_ride_0 : decode cX9_ride 0 = .ok (.aload_n 0, 1) := by decide +kernel
theorem dX9_ride_1 : decode cX9_ride 1 = .ok (.iconst 0, 1) := by decide +kernel
theorem dX9_ride_2 : decode cX9_ride 2 = .ok (.putfield 111, 3) := by decide +kernel
theorem dX9_ride_5 : decode cX9_ride 5 = .ok (.aload_n 0, 1) := by decide +kernel
theorem dX9_ride_6 : decode cX9_ride 6 = .ok (.getfield 208, 3) := by decide +kernel
theorem dX9_ride_9 : decode cX9_ride 9 = .ok (.bipush 60, 2) := by decide +kernel
theorem dX9_ride_11 : decode cX9_ride 11 = .ok (.if_icmp .eq 25, 3) := by decide +kernel
theorem dX9_ride_14 : decode cX9_ride 14 = .ok (.aload_n 0, 1) := by decide +kernel
theorem dX9_ride_15 : decode cX9_ride 15 = .ok (.iload_n 1, 1) := by decide +kernel
theorem dX9_ride_16 : decode cX9_ride 16 = .ok (.invokevirtual 211, 3) := by decide +kernel
theorem dX9_ride_19 : decode cX9_ride 19 = .ok (.ifCond .eq 17, 3) := by decide +kernel
theorem dX9_ride_22 : decode cX9_ride 22 = .ok (.iload_n 2, 1) := by decide +kernel
theorem dX9_ride_23 : decode cX9_ride 23 = .ok (.invokestatic 187, 3) := by decide +kernel
theorem dX9_ride_26 : decode cX9_ride 26 = .ok (.ifCond .eq 10, 3) := by decide +kernel
theorem dX9_ride_29 : decode cX9_ride 29 = .ok (.iload_n 3, 1) := by decide +kernel
theorem dX9_ride_30 : decode cX9_ride 30 = .ok (.invokestatic 187, 3) := by decide +kernel
theorem dX9_ride_33 : decode cX9_ride 33 = .ok (.ifCond .ne 5, 3) := by decide +kernel
theorem dX9_ride_36 : decode cX9_ride 36 = .ok (.iconst (-1), 1) := by decide +kernel
theorem dX9_ride_37 : decode cX9_ride 37 = .ok (.ireturn, 1) := by decide +kernel
theorem dX9_ride_38 : decode cX9_ride 38 = .ok (.iconst 0, 1) := by decide +kernel
theorem dX9_ride_39 : decode cX9_ride 39 = .ok (.istore 4, 2) := by decide +kernel
theorem dX9_ride_41 : decode cX9_ride 41 = .ok (.iload 4, 2) := by decide +kernel
theorem dX9_ride_43 : decode cX9_ride 43 = .ok (.aload_n 0, 1) := by decide +kernel
theorem dX9_ride_44 : decode cX9_ride 44 = .ok (.getfield 208, 3) := by decide +kernel
theorem dX9_ride_47 : decode cX9_ride 47 = .ok (.if_icmp .ge 31, 3) := by decide +kernel
theorem dX9_ride_50 : decode cX9_ride 50 = .ok (.aload_n 0, 1) := by decide +kernel
theorem dX9_ride_51 : decode cX9_ride 51 = .ok (.getfield 57, 3) := by decide +kernel
theorem dX9_ride_54 : decode cX9_ride 54 = .ok (.iload 4, 2) := by decide +kernel
theorem dX9_ride_56 : decode cX9_ride 56 = .ok (.iaload, 1) := by decide +kernel
theorem dX9_ride_57 : decode cX9_ride 57 = .ok (.iload_n 1, 1) := by decide +kernel
theorem dX9_ride_58 : decode cX9_ride 58 = .ok (.if_icmp .ne 14, 3) := by decide +kernel
theorem dX9_ride_61 : decode cX9_ride 61 = .ok (.aload_n 0, 1) := by decide +kernel
theorem dX9_ride_62 : decode cX9_ride 62 = .ok (.iload 4, 2) := by decide +kernel
theorem dX9_ride_64 : decode cX9_ride 64 = .ok (.invokevirtual 214, 3) := by decide +kernel
theorem dX9_ride_67 : decode cX9_ride 67 = .ok (.ifCond .eq 5, 3) := by decide +kernel
theorem dX9_ride_70 : decode cX9_ride 70 = .ok (.iconst (-1), 1) := by decide +kernel
theorem dX9_ride_71 : decode cX9_ride 71 = .ok (.ireturn, 1) := by decide +kernel
theorem dX9_ride_72 : decode cX9_ride 72 = .ok (.iinc 4 1, 3) := by decide +kernel
theorem dX9_ride_75 : decode cX9_ride 75 = .ok (.goto (-34), 3) := by decide +kernel
theorem dX9_ride_78 : decode cX9_ride 78 = .ok (.aload_n 0, 1) := by decide +kernel
theorem dX9_ride_79 : decode cX9_ride 79 = .ok (.iload_n 3, 1) := by decide +kernel
theorem dX9_ride_80 : decode cX9_ride 80 = .ok (.invokevirtual 198, 3) := by decide +kernel
theorem dX9_ride_83 : decode cX9_ride 83 = .ok (.aload_n 0, 1) := by decide +kernel
theorem dX9_ride_84 : decode cX9_ride 84 = .ok (.getfield 30, 3) := by decide +kernel
theorem dX9_ride_87 : decode cX9_ride 87 = .ok (.iload_n 2, 1) := by decide +kernel
theorem dX9_ride_88 : decode cX9_ride 88 = .ok (.iaload, 1) := by decide +kernel
theorem dX9_ride_89 : decode cX9_ride 89 = .ok (.ldc 194, 2) := by decide +kernel
theorem dX9_ride_91 : decode cX9_ride 91 = .ok (.if_icmp .lt 5, 3) := by decide +kernel
theorem dX9_ride_94 : decode cX9_ride 94 = .ok (.iconst (-1), 1) := by decide +kernel
theorem dX9_ride_95 : decode cX9_ride 95 = .ok (.ireturn, 1) := by decide +kernel
theorem dX9_ride_96 : decode cX9_ride 96 = .ok (.aload_n 0, 1) := by decide +kernel
theorem dX9_ride_97 : decode cX9_ride 97 = .ok (.getfield 208, 3) := by decide +kernel
theorem dX9_ride_100 : decode cX9_ride 100 = .ok (.istore 4, 2) := by decide +kernel
theorem dX9_ride_102 : decode cX9_ride 102 = .ok (.iconst 0, 1) := by decide +kernel
theorem dX9_ride_103 : decode cX9_ride 103 = .ok (.istore 5, 2) := by decide +kernel
theorem dX9_ride_105 : decode cX9_ride 105 = .ok (.iload_n 2, 1) := by decide +kernel
theorem dX9_ride_106 : decode cX9_ride 106 = .ok (.istore 6, 2) := by decide +kernel
theorem dX9_ride_108 : decode cX9_ride 108 = .ok (.aload_n 0, 1) := by decide +kernel
theorem dX9_ride_109 : decode cX9_ride 109 = .ok (.getfield 51, 3) := by decide +kernel
theorem dX9_ride_112 : decode cX9_ride 112 = .ok (.bipush 12, 2) := by decide +kernel
theorem dX9_ride_114 : decode cX9_ride 114 = .ok (.iload 4, 2) := by decide +kernel
theorem dX9_ride_116 : decode cX9_ride 116 = .ok (.imul, 1) := by decide +kernel
theorem dX9_ride_117 : decode cX9_ride 117 = .ok (.iload_n 2, 1) := by decide +kernel
theorem dX9_ride_118 : decode cX9_ride 118 = .ok (.iastore, 1) := by decide +kernel
theorem dX9_ride_119 : decode cX9_ride 119 = .ok (.iload 6, 2) := by decide +kernel
theorem dX9_ride_121 : decode cX9_ride 121 = .ok (.iload_n 3, 1) := by decide +kernel
theorem dX9_ride_122 : decode cX9_ride 122 = .ok (.if_icmp .eq 74, 3) := by decide +kernel
theorem dX9_ride_125 : decode cX9_ride 125 = .ok (.iconst 0, 1) := by decide +kernel
theorem dX9_ride_126 : decode cX9_ride 126 = .ok (.istore 7, 2) := by decide +kernel
theorem dX9_ride_128 : decode cX9_ride 128 = .ok (.aload_n 0, 1) := by decide +kernel
theorem dX9_ride_129 : decode cX9_ride 129 = .ok (.iload 6, 2) := by decide +kernel
theorem dX9_ride_131 : decode cX9_ride 131 = .ok (.iload 7, 2) := by decide +kernel
theorem dX9_ride_133 : decode cX9_ride 133 = .ok (.invokevirtual 190, 3) := by decide +kernel
theorem dX9_ride_136 : decode cX9_ride 136 = .ok (.ifCond .eq 29, 3) := by decide +kernel
theorem dX9_ride_139 : decode cX9_ride 139 = .ok (.aload_n 0, 1) := by decide +kernel
theorem dX9_ride_140 : decode cX9_ride 140 = .ok (.iload 6, 2) := by decide +kernel
theorem dX9_ride_142 : decode cX9_ride 142 = .ok (.iload 7, 2) := by decide +kernel
theorem dX9_ride_144 : decode cX9_ride 144 = .ok (.invokevirtual 195, 3) := by decide +kernel
theorem dX9_ride_147 : decode cX9_ride 147 = .ok (.aload_n 0, 1) := by decide +kernel
theorem dX9_ride_148 : decode cX9_ride 148 = .ok (.getfield 30, 3) := by decide +kernel
theorem dX9_ride_151 : decode cX9_ride 151 = .ok (.iload 7, 2) := by decide +kernel
theorem dX9_ride_153 : decode cX9_ride 153 = .ok (.iaload, 1) := by decide +kernel
theorem dX9_ride_154 : decode cX9_ride 154 = .ok (.iadd, 1) := by decide +kernel
theorem dX9_ride_155 : decode cX9_ride 155 = .ok (.aload_n 0, 1) := by decide +kernel
theorem dX9_ride_156 : decode cX9_ride 156 = .ok (.getfield 30, 3) := by decide +kernel
theorem dX9_ride_159 : decode cX9_ride 159 = .ok (.iload 6, 2) := by decide +kernel
theorem dX9_ride_161 : decode cX9_ride 161 = .ok (.iaload, 1) := by decide +kernel
theorem dX9_ride_162 : decode cX9_ride 162 = .ok (.if_icmp .eq 9, 3) := by decide +kernel
theorem dX9_ride_165 : decode cX9_ride 165 = .ok (.iinc 7 1, 3) := by decide +kernel
theorem dX9_ride_168 : decode cX9_ride 168 = .ok (.goto (-40), 3) := by decide +kernel
theorem dX9_ride_171 : decode cX9_ride 171 = .ok (.iinc 5 1, 3) := by decide +kernel
theorem dX9_ride_174 : decode cX9_ride 174 = .ok (.aload_n 0, 1) := by decide +kernel
theorem dX9_ride_175 : decode cX9_ride 175 = .ok (.getfield 51, 3) := by decide +kernel
theorem dX9_ride_178 : decode cX9_ride 178 = .ok (.bipush 12, 2) := by decide +kernel
theorem dX9_ride_180 : decode cX9_ride 180 = .ok (.iload 4, 2) := by decide +kernel
theorem dX9_ride_182 : decode cX9_ride 182 = .ok (.imul, 1) := by decide +kernel
theorem dX9_ride_183 : decode cX9_ride 183 = .ok (.iload 5, 2) := by decide +kernel
theorem dX9_ride_185 : decode cX9_ride 185 = .ok (.iadd, 1) := by decide +kernel
theorem dX9_ride_186 : decode cX9_ride 186 = .ok (.iload 7, 2) := by decide +kernel
theorem dX9_ride_188 : decode cX9_ride 188 = .ok (.iastore, 1) := by decide +kernel
theorem dX9_ride_189 : decode cX9_ride 189 = .ok (.iload 7, 2) := by decide +kernel
theorem dX9_ride_191 : decode cX9_ride 191 = .ok (.istore 6, 2) := by decide +kernel
theorem dX9_ride_193 : decode cX9_ride 193 = .ok (.goto (-74), 3) := by decide +kernel
theorem dX9_ride_196 : decode cX9_ride 196 = .ok (.aload_n 0, 1) := by decide +kernel
theorem dX9_ride_197 : decode cX9_ride 197 = .ok (.getfield 54, 3) := by decide +kernel
theorem dX9_ride_200 : decode cX9_ride 200 = .ok (.iload 4, 2) := by decide +kernel
theorem dX9_ride_202 : decode cX9_ride 202 = .ok (.iload 5, 2) := by decide +kernel
theorem dX9_ride_204 : decode cX9_ride 204 = .ok (.iconst 1, 1) := by decide +kernel
theorem dX9_ride_205 : decode cX9_ride 205 = .ok (.iadd, 1) := by decide +kernel
theorem dX9_ride_206 : decode cX9_ride 206 = .ok (.iastore, 1) := by decide +kernel
theorem dX9_ride_207 : decode cX9_ride 207 = .ok (.aload_n 0, 1) := by decide +kernel
theorem dX9_ride_208 : decode cX9_ride 208 = .ok (.getfield 57, 3) := by decide +kernel
theorem dX9_ride_211 : decode cX9_ride 211 = .ok (.iload 4, 2) := by decide +kernel
theorem dX9_ride_213 : decode cX9_ride 213 = .ok (.iload_n 1, 1) := by decide +kernel
theorem dX9_ride_214 : decode cX9_ride 214 = .ok (.iastore, 1) := by decide +kernel
theorem dX9_ride_215 : decode cX9_ride 215 = .ok (.aload_n 0, 1) := by decide +kernel
theorem dX9_ride_216 : decode cX9_ride 216 = .ok (.getfield 63, 3) := by decide +kernel
theorem dX9_ride_219 : decode cX9_ride 219 = .ok (.iload 4, 2) := by decide +kernel
theorem dX9_ride_221 : decode cX9_ride 221 = .ok (.iconst 1, 1) := by decide +kernel
theorem dX9_ride_222 : decode cX9_ride 222 = .ok (.iastore, 1) := by decide +kernel
theorem dX9_ride_223 : decode cX9_ride 223 = .ok (.aload_n 0, 1) := by decide +kernel
theorem dX9_ride_224 : decode cX9_ride 224 = .ok (.getfield 66, 3) := by decide +kernel
theorem dX9_ride_227 : decode cX9_ride 227 = .ok (.iload 4, 2) := by decide +kernel
theorem dX9_ride_229 : decode cX9_ride 229 = .ok (.aload_n 0, 1) := by decide +kernel
theorem dX9_ride_230 : decode cX9_ride 230 = .ok (.getfield 217, 3) := by decide +kernel
theorem dX9_ride_233 : decode cX9_ride 233 = .ok (.iastore, 1) := by decide +kernel
theorem dX9_ride_234 : decode cX9_ride 234 = .ok (.aload_n 0, 1) := by decide +kernel
theorem dX9_ride_235 : decode cX9_ride 235 = .ok (.getfield 69, 3) := by decide +kernel
theorem dX9_ride_238 : decode cX9_ride 238 = .ok (.iload 4, 2) := by decide +kernel
theorem dX9_ride_240 : decode cX9_ride 240 = .ok (.iconst (-1), 1) := by decide +kernel
theorem dX9_ride_241 : decode cX9_ride 241 = .ok (.iastore, 1) := by decide +kernel
theorem dX9_ride_242 : decode cX9_ride 242 = .ok (.aload_n 0, 1) := by decide +kernel
theorem dX9_ride_243 : decode cX9_ride 243 = .ok (.getfield 60, 3) := by decide +kernel
theorem dX9_ride_246 : decode cX9_ride 246 = .ok (.iload 4, 2) := by decide +kernel
theorem dX9_ride_248 : decode cX9_ride 248 = .ok (.iload 5, 2) := by decide +kernel
theorem dX9_ride_250 : decode cX9_ride 250 = .ok (.ifCond .ne 7, 3) := by decide +kernel
theorem dX9_ride_253 : decode cX9_ride 253 = .ok (.iconst 2, 1) := by decide +kernel
theorem dX9_ride_254 : decode cX9_ride 254 = .ok (.goto 4, 3) := by decide +kernel
theorem dX9_ride_257 : decode cX9_ride 257 = .ok (.iconst 0, 1) := by decide +kernel
theorem dX9_ride_258 : decode cX9_ride 258 = .ok (.iastore, 1) := by decide +kernel
theorem dX9_ride_259 : decode cX9_ride 259 = .ok (.iconst 0, 1) := by decide +kernel
theorem dX9_ride_260 : decode cX9_ride 260 = .ok (.istore 7, 2) := by decide +kernel
theorem dX9_ride_262 : decode cX9_ride 262 = .ok (.iload 7, 2) := by decide +kernel
theorem dX9_ride_264 : decode cX9_ride 264 = .ok (.bipush 12, 2) := by decide +kernel
theorem dX9_ride_266 : decode cX9_ride 266 = .ok (.if_icmp .ge 36, 3) := by decide +kernel
theorem dX9_ride_269 : decode cX9_ride 269 = .ok (.aload_n 0, 1) := by decide +kernel
theorem dX9_ride_270 : decode cX9_ride 270 = .ok (.getfield 48, 3) := by decide +kernel
theorem dX9_ride_273 : decode cX9_ride 273 = .ok (.bipush 12, 2) := by decide +kernel
theorem dX9_ride_275 : decode cX9_ride 275 = .ok (.iload 4, 2) := by decide +kernel
theorem dX9_ride_277 : decode cX9_ride 277 = .ok (.imul, 1) := by decide +kernel
theorem dX9_ride_278 : decode cX9_ride 278 = .ok (.iload 7, 2) := by decide +kernel
theorem dX9_ride_280 : decode cX9_ride 280 = .ok (.iadd, 1) := by decide +kernel
theorem dX9_ride_281 : decode cX9_ride 281 = .ok (.iload 7, 2) := by decide +kernel
theorem dX9_ride_283 : decode cX9_ride 283 = .ok (.iload_n 2, 1) := by decide +kernel
theorem dX9_ride_284 : decode cX9_ride 284 = .ok (.if_icmp .ne 10, 3) := by decide +kernel
theorem dX9_ride_287 : decode cX9_ride 287 = .ok (.aload_n 0, 1) := by decide +kernel
theorem dX9_ride_288 : decode cX9_ride 288 = .ok (.getfield 217, 3) := by decide +kernel
theorem dX9_ride_291 : decode cX9_ride 291 = .ok (.goto 4, 3) := by decide +kernel
theorem dX9_ride_294 : decode cX9_ride 294 = .ok (.iconst (-1), 1) := by decide +kernel
theorem dX9_ride_295 : decode cX9_ride 295 = .ok (.iastore, 1) := by decide +kernel
theorem dX9_ride_296 : decode cX9_ride 296 = .ok (.iinc 7 1, 3) := by decide +kernel
theorem dX9_ride_299 : decode cX9_ride 299 = .ok (.goto (-37), 3) := by decide +kernel
theorem dX9_ride_302 : decode cX9_ride 302 = .ok (.aload_n 0, 1) := by decide +kernel
theorem dX9_ride_303 : decode cX9_ride 303 = .ok (.dup, 1) := by decide +kernel
theorem dX9_ride_304 : decode cX9_ride 304 = .ok (.getfield 208, 3) := by decide +kernel
theorem dX9_ride_307 : decode cX9_ride 307 = .ok (.iconst 1, 1) := by decide +kernel
theorem dX9_ride_308 : decode cX9_ride 308 = .ok (.iadd, 1) := by decide +kernel
theorem dX9_ride_309 : decode cX9_ride 309 = .ok (.putfield 208, 3) := by decide +kernel
theorem dX9_ride_312 : decode cX9_ride 312 = .ok (.iload 4, 2) := by decide +kernel
theorem dX9_ride_314 : decode cX9_ride 314 = .ok (.ireturn, 1) := by decide +kernel
theorem dX9_where_0 : decode cX9_where 0 = .ok (.aload_n 0, 1) := by decide +kernel
theorem dX9_where_1 : decode cX9_where 1 = .ok (.getfield 51, 3) := by decide +kernel
theorem dX9_where_4 : decode cX9_where 4 = .ok (.bipush 12, 2) := by decide +kernel
theorem dX9_where_6 : decode cX9_where 6 = .ok (.iload_n 1, 1) := by decide +kernel
theorem dX9_where_7 : decode cX9_where 7 = .ok (.imul, 1) := by decide +kernel
theorem dX9_where_8 : decode cX9_where 8 = .ok (.aload_n 0, 1) := by decide +kernel
theorem dX9_where_9 : decode cX9_where 9 = .ok (.getfield 63, 3) := by decide +kernel
theorem dX9_where_12 : decode cX9_where 12 = .ok (.iload_n 1, 1) := by decide +kernel
theorem dX9_where_13 : decode cX9_where 13 = .ok (.iaload, 1) := by decide +kernel
theorem dX9_where_14 : decode cX9_where 14 = .ok (.iadd, 1) := by decide +kernel
theorem dX9_where_15 : decode cX9_where 15 = .ok (.iconst 1, 1) := by decide +kernel
theorem dX9_where_16 : decode cX9_where 16 = .ok (.isub, 1) := by decide +kernel
theorem dX9_where_17 : decode cX9_where 17 = .ok (.iaload, 1) := by decide +kernel
theorem dX9_where_18 : decode cX9_where 18 = .ok (.ireturn, 1) := by decide +kernel
set_option maxRecDepth 20000 in
theorem ggX9_cancel_X9_isTablet : GoodIn wsX9_cancel wsX9_isTablet := goodIn_ca (lq_goor _ [8, 9] rfl (by decide +kernel)) (goodIn_sub (fun _ h => List.mem_cons_of_mem _ (List.mem_append_right _ h)) gw_wsX90)
set_option maxRecDepth 20000 in
theorem gX9_cancel_X9_isTablet : GoodIn wsX9_cancel (wsV RX9 211 RX9 yX9_isTablet wsX9_isTablet) := goodIn_app (lq_goor _ [4, 5, 6, 7] rfl (by decide +kernel)) ggX9_cancel_X9_isTablet
set_option maxRecDepth 20000 in
theorem ggX9_cancel_X9_isStation : GoodIn wsX9_cancel wsX9_isStation := lq_goor _ [12] rfl (by decide +kernel)
set_option maxRecDepth 20000 in
theorem gX9_cancel_X9_isStation : GoodIn wsX9_cancel (va_wsS RX9 187 yX9_isStation wsX9_isStation) := goodIn_app (lq_goor _ [10, 11, 7] rfl (by decide +kernel)) ggX9_cancel_X9_isStation
theorem dX9_cancel_0 : decode cX9_cancel 0 = .ok (.aload_n 0, 1) := by decide +kernel
theorem dX9_cancel_1 : decode cX9_cancel 1 = .ok (.iconst 0, 1) := by decide +kernel
theorem dX9_cancel_2 : decode cX9_cancel 2 = .ok (.putfield 111, 3) := by decide +kernel
theorem dX9_cancel_5 : decode cX9_cancel 5 = .ok (.aload_n 0, 1) := by decide +kernel
theorem dX9_cancel_6 : decode cX9_cancel 6 = .ok (.iload_n 1, 1) := by decide +kernel
theorem dX9_cancel_7 : decode cX9_cancel 7 = .ok (.invokevirtual 211, 3) := by decide +kernel
theorem dX9_cancel_10 : decode cX9_cancel 10 = .ok (.ifCond .eq 24, 3) := by decide +kernel
theorem dX9_cancel_13 : decode cX9_cancel 13 = .ok (.iload_n 2, 1) := by decide +kernel
theorem dX9_cancel_14 : decode cX9_cancel 14 = .ok (.invokestatic 187, 3) := by decide +kernel
theorem dX9_cancel_17 : decode cX9_cancel 17 = .ok (.ifCond .eq 17, 3) := by decide +kernel
theorem dX9_cancel_20 : decode cX9_cancel 20 = .ok (.aload_n 0, 1) := by decide +kernel
theorem dX9_cancel_21 : decode cX9_cancel 21 = .ok (.getfield 45, 3) := by decide +kernel
theorem dX9_cancel_24 : decode cX9_cancel 24 = .ok (.bipush 12, 2) := by decide +kernel
theorem dX9_cancel_26 : decode cX9_cancel 26 = .ok (.iload_n 1, 1) := by decide +kernel
theorem dX9_cancel_27 : decode cX9_cancel 27 = .ok (.imul, 1) := by decide +kernel
theorem dX9_cancel_28 : decode cX9_cancel 28 = .ok (.iload_n 2, 1) := by decide +kernel
theorem dX9_cancel_29 : decode cX9_cancel 29 = .ok (.iadd, 1) := by decide +kernel
theorem dX9_cancel_30 : decode cX9_cancel 30 = .ok (.iaload, 1) := by decide +kernel
theorem dX9_cancel_31 : decode cX9_cancel 31 = .ok (.ifCond .lt 5, 3) := by decide +kernel
theorem dX9_cancel_34 : decode cX9_cancel 34 = .ok (.iconst 0, 1) := by decide +kernel
theorem dX9_cancel_35 : decode cX9_cancel 35 = .ok (.ireturn, 1) := by decide +kernel
theorem dX9_cancel_36 : decode cX9_cancel 36 = .ok (.aload_n 0, 1) := by decide +kernel
theorem dX9_cancel_37 : decode cX9_cancel 37 = .ok (.getfield 45, 3) := by decide +kernel
theorem dX9_cancel_40 : decode cX9_cancel 40 = .ok (.bipush 12, 2) := by decide +kernel
theorem dX9_cancel_42 : decode cX9_cancel 42 = .ok (.iload_n 1, 1) := by decide +kernel
theorem dX9_cancel_43 : decode cX9_cancel 43 = .ok (.imul, 1) := by decide +kernel
theorem dX9_cancel_44 : decode cX9_cancel 44 = .ok (.iload_n 2, 1) := by decide +kernel
theorem dX9_cancel_45 : decode cX9_cancel 45 = .ok (.iadd, 1) := by decide +kernel
theorem dX9_cancel_46 : decode cX9_cancel 46 = .ok (.aload_n 0, 1) := by decide +kernel
theorem dX9_cancel_47 : decode cX9_cancel 47 = .ok (.getfield 217, 3) := by decide +kernel
theorem dX9_cancel_50 : decode cX9_cancel 50 = .ok (.iastore, 1) := by decide +kernel
theorem dX9_cancel_51 : decode cX9_cancel 51 = .ok (.iconst 1, 1) := by decide +kernel
theorem dX9_cancel_52 : decode cX9_cancel 52 = .ok (.ireturn, 1) := by decide +kernel
set_option maxRecDepth 20000 in
theorem ggX9_kill_X9_isRider : GoodIn wsX9_kill wsX9_isRider := goodIn_ca (lq_goor _ [8, 9] rfl (by decide +kernel)) (goodIn_sub (fun _ h => List.mem_cons_of_mem _ (List.mem_append_right _ h)) gw_wsX90)
set_option maxRecDepth 20000 in
theorem gX9_kill_X9_isRider : GoodIn wsX9_kill (wsV RX9 220 RX9 yX9_isRider wsX9_isRider) := goodIn_app (lq_goor _ [4, 5, 6, 7] rfl (by decide +kernel)) ggX9_kill_X9_isRider
set_option maxRecDepth 20000 in
theorem ggX9_kill_X9_isOnWay : GoodIn wsX9_kill wsX9_isOnWay := goodIn_ca (lq_goor _ [13, 3] rfl (by decide +kernel)) (goodIn_sub (fun _ h => List.mem_cons_of_mem _ (List.mem_append_right _ h)) gw_wsX90)
set_option maxRecDepth 20000 in
theorem gX9_kill_X9_isOnWay : GoodIn wsX9_kill (wsV RX9 214 RX9 yX9_isOnWay wsX9_isOnWay) := goodIn_app (lq_goor _ [10, 11, 12, 7] rfl (by decide +kernel)) ggX9_kill_X9_isOnWay
theorem dX9_kill_0 : decode cX9_kill 0 = .ok (.aload_n 0, 1) := by decide +kernel
theorem dX9_kill_1 : decode cX9_kill 1 = .ok (.iconst 0, 1) := by decide +kernel
theorem dX9_kill_2 : decode cX9_kill 2 = .ok (.putfield 111, 3) := by decide +kernel
theorem dX9_kill_5 : decode cX9_kill 5 = .ok (.aload_n 0, 1) := by decide +kernel
theorem dX9_kill_6 : decode cX9_kill 6 = .ok (.iload_n 1, 1) := by decide +kernel
theorem dX9_kill_7 : decode cX9_kill 7 = .ok (.invokevirtual 220, 3) := by decide +kernel
theorem dX9_kill_10 : decode cX9_kill 10 = .ok (.ifCond .eq 11, 3) := by decide +kernel
theorem dX9_kill_13 : decode cX9_kill 13 = .ok (.aload_n 0, 1) := by decide +kernel
theorem dX9_kill_14 : decode cX9_kill 14 = .ok (.iload_n 1, 1) := by decide +kernel
theorem dX9_kill_15 : decode cX9_kill 15 = .ok (.invokevirtual 214, 3) := by decide +kernel
theorem dX9_kill_18 : decode cX9_kill 18 = .ok (.ifCond .ne 5, 3) := by decide +kernel
theorem dX9_kill_21 : decode cX9_kill 21 = .ok (.iconst 0, 1) := by decide +kernel
theorem dX9_kill_22 : decode cX9_kill 22 = .ok (.ireturn, 1) := by decide +kernel
theorem dX9_kill_23 : decode cX9_kill 23 = .ok (.aload_n 0, 1) := by decide +kernel
theorem dX9_kill_24 : decode cX9_kill 24 = .ok (.getfield 81, 3) := by decide +kernel
theorem dX9_kill_27 : decode cX9_kill 27 = .ok (.iload_n 1, 1) := by decide +kernel
theorem dX9_kill_28 : decode cX9_kill 28 = .ok (.aload_n 0, 1) := by decide +kernel
theorem dX9_kill_29 : decode cX9_kill 29 = .ok (.getfield 60, 3) := by decide +kernel
theorem dX9_kill_32 : decode cX9_kill 32 = .ok (.iload_n 1, 1) := by decide +kernel
theorem dX9_kill_33 : decode cX9_kill 33 = .ok (.iaload, 1) := by decide +kernel
theorem dX9_kill_34 : decode cX9_kill 34 = .ok (.iconst 1, 1) := by decide +kernel
theorem dX9_kill_35 : decode cX9_kill 35 = .ok (.if_icmp .ne 7, 3) := by decide +kernel
theorem dX9_kill_38 : decode cX9_kill 38 = .ok (.iconst 1, 1) := by decide +kernel
theorem dX9_kill_39 : decode cX9_kill 39 = .ok (.goto 4, 3) := by decide +kernel
theorem dX9_kill_42 : decode cX9_kill 42 = .ok (.iconst 0, 1) := by decide +kernel
theorem dX9_kill_43 : decode cX9_kill 43 = .ok (.bastore, 1) := by decide +kernel
theorem dX9_kill_44 : decode cX9_kill 44 = .ok (.aload_n 0, 1) := by decide +kernel
theorem dX9_kill_45 : decode cX9_kill 45 = .ok (.getfield 60, 3) := by decide +kernel
theorem dX9_kill_48 : decode cX9_kill 48 = .ok (.iload_n 1, 1) := by decide +kernel
theorem dX9_kill_49 : decode cX9_kill 49 = .ok (.iconst 4, 1) := by decide +kernel
theorem dX9_kill_50 : decode cX9_kill 50 = .ok (.iastore, 1) := by decide +kernel
theorem dX9_kill_51 : decode cX9_kill 51 = .ok (.iconst 1, 1) := by decide +kernel
theorem dX9_kill_52 : decode cX9_kill 52 = .ok (.ireturn, 1) := by decide +kernel
set_option maxRecDepth 20000 in
theorem ggX9_next_X9_feeds : GoodIn wsX9_next wsX9_feeds := goodIn_ca (lq_goor _ [13, 4, 14, 15, 16] rfl (by decide +kernel)) (goodIn_sub (fun _ h => List.mem_cons_of_mem _ (List.mem_append_right _ h)) gw_wsX90)
set_option maxRecDepth 20000 in
theorem gX9_next_X9_feeds : GoodIn wsX9_next (wsV RX9 223 RX9 yX9_feeds wsX9_feeds) := goodIn_app (lq_goor _ [9, 10, 11, 12] rfl (by decide +kernel)) ggX9_next_X9_feeds
set_option maxRecDepth 20000 in
theorem ggX9_next_X9_leaveAll : GoodIn wsX9_next wsX9_leaveAll := goodIn_ca (lq_goor _ [20, 5, 21, 6, 22, 23, 24, 12, 25, 26, 27, 28, 29, 30, 31, 32, 33, 34, 35, 36, 37, 38, 39, 16, 15, 40, 4, 41, 8, 2, 42, 43, 44, 45, 46, 47, 3, 48, 49, 50, 51, 52, 53, 54, 55, 56, 57, 58, 59, 60, 61] rfl (by decide +kernel)) (goodIn_sub (fun _ h => List.mem_cons_of_mem _ (List.mem_append_right _ h)) gw_wsX90)
set_option maxRecDepth 20000 in
theorem gX9_next_X9_leaveAll : GoodIn wsX9_next (wsV RX9 226 RX9 yX9_leaveAll wsX9_leaveAll) := goodIn_app (lq_goor _ [17, 18, 19, 12] rfl (by decide +kernel)) ggX9_next_X9_leaveAll
set_option maxRecDepth 20000 in
theorem ggX9_next_X9_comes : GoodIn wsX9_next wsX9_comes := goodIn_ca (lq_goor _ [65, 26, 27, 40, 15, 16, 41, 4, 7, 34, 2, 6, 66, 67, 43, 42, 39] rfl (by decide +kernel)) (goodIn_sub (fun _ h => List.mem_cons_of_mem _ (List.mem_append_right _ h)) gw_wsX90)
set_option maxRecDepth 20000 in
theorem gX9_next_X9_comes : GoodIn wsX9_next (wsV RX9 229 RX9 yX9_comes wsX9_comes) := goodIn_app (lq_goor _ [62, 63, 64, 12] rfl (by decide +kernel)) ggX9_next_X9_comes
theorem dX9_next_0 : decode cX9_next 0 = .ok (.aload_n 0, 1) := by decide +kernel
theorem dX9_next_1 : decode cX9_next 1 = .ok (.iconst 0, 1) := by decide +kernel
theorem dX9_next_2 : decode cX9_next 2 = .ok (.putfield 111, 3) := by decide +kernel
theorem dX9_next_5 : decode cX9_next 5 = .ok (.aload_n 0, 1) := by decide +kernel
theorem dX9_next_6 : decode cX9_next 6 = .ok (.getfield 217, 3) := by decide +kernel
theorem dX9_next_9 : decode cX9_next 9 = .ok (.sipush 9999, 3) := by decide +kernel
theorem dX9_next_12 : decode cX9_next 12 = .ok (.if_icmp .ne 5, 3) := by decide +kernel
theorem dX9_next_15 : decode cX9_next 15 = .ok (.iconst (-1), 1) := by decide +kernel
theorem dX9_next_16 : decode cX9_next 16 = .ok (.ireturn, 1) := by decide +kernel
theorem dX9_next_17 : decode cX9_next 17 = .ok (.iconst 0, 1) := by decide +kernel
theorem dX9_next_18 : decode cX9_next 18 = .ok (.istore_n 1, 1) := by decide +kernel
theorem dX9_next_19 : decode cX9_next 19 = .ok (.iload_n 1, 1) := by decide +kernel
theorem dX9_next_20 : decode cX9_next 20 = .ok (.aload_n 0, 1) := by decide +kernel
theorem dX9_next_21 : decode cX9_next 21 = .ok (.getfield 202, 3) := by decide +kernel
theorem dX9_next_24 : decode cX9_next 24 = .ok (.if_icmp .ge 23, 3) := by decide +kernel
theorem dX9_next_27 : decode cX9_next 27 = .ok (.aload_n 0, 1) := by decide +kernel
theorem dX9_next_28 : decode cX9_next 28 = .ok (.getfield 39, 3) := by decide +kernel
theorem dX9_next_31 : decode cX9_next 31 = .ok (.iload_n 1, 1) := by decide +kernel
theorem dX9_next_32 : decode cX9_next 32 = .ok (.iaload, 1) := by decide +kernel
theorem dX9_next_33 : decode cX9_next 33 = .ok (.ifCond .lt 8, 3) := by decide +kernel
theorem dX9_next_36 : decode cX9_next 36 = .ok (.aload_n 0, 1) := by decide +kernel
theorem dX9_next_37 : decode cX9_next 37 = .ok (.iload_n 1, 1) := by decide +kernel
theorem dX9_next_38 : decode cX9_next 38 = .ok (.invokevirtual 223, 3) := by decide +kernel
theorem dX9_next_41 : decode cX9_next 41 = .ok (.iinc 1 1, 3) := by decide +kernel
theorem dX9_next_44 : decode cX9_next 44 = .ok (.goto (-25), 3) := by decide +kernel
theorem dX9_next_47 : decode cX9_next 47 = .ok (.iconst 0, 1) := by decide +kernel
theorem dX9_next_48 : decode cX9_next 48 = .ok (.istore_n 1, 1) := by decide +kernel
theorem dX9_next_49 : decode cX9_next 49 = .ok (.iload_n 1, 1) := by decide +kernel
theorem dX9_next_50 : decode cX9_next 50 = .ok (.bipush 12, 2) := by decide +kernel
theorem dX9_next_52 : decode cX9_next 52 = .ok (.if_icmp .ge 14, 3) := by decide +kernel
theorem dX9_next_55 : decode cX9_next 55 = .ok (.aload_n 0, 1) := by decide +kernel
theorem dX9_next_56 : decode cX9_next 56 = .ok (.iload_n 1, 1) := by decide +kernel
theorem dX9_next_57 : decode cX9_next 57 = .ok (.invokevirtual 226, 3) := by decide +kernel
theorem dX9_next_60 : decode cX9_next 60 = .ok (.iinc 1 1, 3) := by decide +kernel
theorem dX9_next_63 : decode cX9_next 63 = .ok (.goto (-14), 3) := by decide +kernel
theorem dX9_next_66 : decode cX9_next 66 = .ok (.aload_n 0, 1) := by decide +kernel
theorem dX9_next_67 : decode cX9_next 67 = .ok (.dup, 1) := by decide +kernel
theorem dX9_next_68 : decode cX9_next 68 = .ok (.getfield 217, 3) := by decide +kernel
theorem dX9_next_71 : decode cX9_next 71 = .ok (.iconst 1, 1) := by decide +kernel
theorem dX9_next_72 : decode cX9_next 72 = .ok (.iadd, 1) := by decide +kernel
theorem dX9_next_73 : decode cX9_next 73 = .ok (.putfield 217, 3) := by decide +kernel
theorem dX9_next_76 : decode cX9_next 76 = .ok (.iconst 0, 1) := by decide +kernel
theorem dX9_next_77 : decode cX9_next 77 = .ok (.istore_n 1, 1) := by decide +kernel
theorem dX9_next_78 : decode cX9_next 78 = .ok (.iload_n 1, 1) := by decide +kernel
theorem dX9_next_79 : decode cX9_next 79 = .ok (.aload_n 0, 1) := by decide +kernel
theorem dX9_next_80 : decode cX9_next 80 = .ok (.getfield 208, 3) := by decide +kernel
theorem dX9_next_83 : decode cX9_next 83 = .ok (.if_icmp .ge 46, 3) := by decide +kernel
theorem dX9_next_86 : decode cX9_next 86 = .ok (.aload_n 0, 1) := by decide +kernel
theorem dX9_next_87 : decode cX9_next 87 = .ok (.getfield 60, 3) := by decide +kernel
theorem dX9_next_90 : decode cX9_next 90 = .ok (.iload_n 1, 1) := by decide +kernel
theorem dX9_next_91 : decode cX9_next 91 = .ok (.iaload, 1) := by decide +kernel
theorem dX9_next_92 : decode cX9_next 92 = .ok (.iconst 1, 1) := by decide +kernel
theorem dX9_next_93 : decode cX9_next 93 = .ok (.if_icmp .eq 12, 3) := by decide +kernel
theorem dX9_next_96 : decode cX9_next 96 = .ok (.aload_n 0, 1) := by decide +kernel
theorem dX9_next_97 : decode cX9_next 97 = .ok (.getfield 81, 3) := by decide +kernel
theorem dX9_next_100 : decode cX9_next 100 = .ok (.iload_n 1, 1) := by decide +kernel
theorem dX9_next_101 : decode cX9_next 101 = .ok (.baload, 1) := by decide +kernel
theorem dX9_next_102 : decode cX9_next 102 = .ok (.ifCond .eq 21, 3) := by decide +kernel
theorem dX9_next_105 : decode cX9_next 105 = .ok (.aload_n 0, 1) := by decide +kernel
theorem dX9_next_106 : decode cX9_next 106 = .ok (.getfield 72, 3) := by decide +kernel
theorem dX9_next_109 : decode cX9_next 109 = .ok (.iload_n 1, 1) := by decide +kernel
theorem dX9_next_110 : decode cX9_next 110 = .ok (.iaload, 1) := by decide +kernel
theorem dX9_next_111 : decode cX9_next 111 = .ok (.aload_n 0, 1) := by decide +kernel
theorem dX9_next_112 : decode cX9_next 112 = .ok (.getfield 217, 3) := by decide +kernel
theorem dX9_next_115 : decode cX9_next 115 = .ok (.if_icmp .ne 8, 3) := by decide +kernel
theorem dX9_next_118 : decode cX9_next 118 = .ok (.aload_n 0, 1) := by decide +kernel
theorem dX9_next_119 : decode cX9_next 119 = .ok (.iload_n 1, 1) := by decide +kernel
theorem dX9_next_120 : decode cX9_next 120 = .ok (.invokevirtual 229, 3) := by decide +kernel
theorem dX9_next_123 : decode cX9_next 123 = .ok (.iinc 1 1, 3) := by decide +kernel
theorem dX9_next_126 : decode cX9_next 126 = .ok (.goto (-48), 3) := by decide +kernel
theorem dX9_next_129 : decode cX9_next 129 = .ok (.aload_n 0, 1) := by decide +kernel
theorem dX9_next_130 : decode cX9_next 130 = .ok (.getfield 217, 3) := by decide +kernel
theorem dX9_next_133 : decode cX9_next 133 = .ok (.ireturn, 1) := by decide +kernel
theorem dX9_feeds_0 : decode cX9_feeds 0 = .ok (.aload_n 0, 1) := by decide +kernel
theorem dX9_feeds_1 : decode cX9_feeds 1 = .ok (.getfield 39, 3) := by decide +kernel
theorem dX9_feeds_4 : decode cX9_feeds 4 = .ok (.iload_n 1, 1) := by decide +kernel
theorem dX9_feeds_5 : decode cX9_feeds 5 = .ok (.iaload, 1) := by decide +kernel
theorem dX9_feeds_6 : decode cX9_feeds 6 = .ok (.istore_n 2, 1) := by decide +kernel
theorem dX9_feeds_7 : decode cX9_feeds 7 = .ok (.aload_n 0, 1) := by decide +kernel
theorem dX9_feeds_8 : decode cX9_feeds 8 = .ok (.getfield 33, 3) := by decide +kernel
theorem dX9_feeds_11 : decode cX9_feeds 11 = .ok (.iload_n 2, 1) := by decide +kernel
theorem dX9_feeds_12 : decode cX9_feeds 12 = .ok (.iaload, 1) := by decide +kernel
theorem dX9_feeds_13 : decode cX9_feeds 13 = .ok (.ifCond .le 58, 3) := by decide +kernel
theorem dX9_feeds_16 : decode cX9_feeds 16 = .ok (.aload_n 0, 1) := by decide +kernel
theorem dX9_feeds_17 : decode cX9_feeds 17 = .ok (.getfield 33, 3) := by decide +kernel
theorem dX9_feeds_20 : decode cX9_feeds 20 = .ok (.iload_n 2, 1) := by decide +kernel
theorem dX9_feeds_21 : decode cX9_feeds 21 = .ok (.dup2, 1) := by decide +kernel
theorem dX9_feeds_22 : decode cX9_feeds 22 = .ok (.iaload, 1) := by decide +kernel
theorem dX9_feeds_23 : decode cX9_feeds 23 = .ok (.iconst 1, 1) := by decide +kernel
theorem dX9_feeds_24 : decode cX9_feeds 24 = .ok (.isub, 1) := by decide +kernel
theorem dX9_feeds_25 : decode cX9_feeds 25 = .ok (.iastore, 1) := by decide +kernel
theorem dX9_feeds_26 : decode cX9_feeds 26 = .ok (.aload_n 0, 1) := by decide +kernel
theorem dX9_feeds_27 : decode cX9_feeds 27 = .ok (.getfield 36, 3) := by decide +kernel
theorem dX9_feeds_30 : decode cX9_feeds 30 = .ok (.iload_n 1, 1) := by decide +kernel
theorem dX9_feeds_31 : decode cX9_feeds 31 = .ok (.aload_n 0, 1) := by decide +kernel
theorem dX9_feeds_32 : decode cX9_feeds 32 = .ok (.getfield 36, 3) := by decide +kernel
theorem dX9_feeds_35 : decode cX9_feeds 35 = .ok (.iload_n 1, 1) := by decide +kernel
theorem dX9_feeds_36 : decode cX9_feeds 36 = .ok (.iaload, 1) := by decide +kernel
theorem dX9_feeds_37 : decode cX9_feeds 37 = .ok (.aload_n 0, 1) := by decide +kernel
theorem dX9_feeds_38 : decode cX9_feeds 38 = .ok (.getfield 13, 3) := by decide +kernel
theorem dX9_feeds_41 : decode cX9_feeds 41 = .ok (.iconst 1, 1) := by decide +kernel
theorem dX9_feeds_42 : decode cX9_feeds 42 = .ok (.iaload, 1) := by decide +kernel
theorem dX9_feeds_43 : decode cX9_feeds 43 = .ok (.iadd, 1) := by decide +kernel
theorem dX9_feeds_44 : decode cX9_feeds 44 = .ok (.bipush 100, 2) := by decide +kernel
theorem dX9_feeds_46 : decode cX9_feeds 46 = .ok (.if_icmp .le 8, 3) := by decide +kernel
theorem dX9_feeds_49 : decode cX9_feeds 49 = .ok (.bipush 100, 2) := by decide +kernel
theorem dX9_feeds_51 : decode cX9_feeds 51 = .ok (.goto 16, 3) := by decide +kernel
theorem dX9_feeds_54 : decode cX9_feeds 54 = .ok (.aload_n 0, 1) := by decide +kernel
theorem dX9_feeds_55 : decode cX9_feeds 55 = .ok (.getfield 36, 3) := by decide +kernel
theorem dX9_feeds_58 : decode cX9_feeds 58 = .ok (.iload_n 1, 1) := by decide +kernel
theorem dX9_feeds_59 : decode cX9_feeds 59 = .ok (.iaload, 1) := by decide +kernel
theorem dX9_feeds_60 : decode cX9_feeds 60 = .ok (.aload_n 0, 1) := by decide +kernel
theorem dX9_feeds_61 : decode cX9_feeds 61 = .ok (.getfield 13, 3) := by decide +kernel
theorem dX9_feeds_64 : decode cX9_feeds 64 = .ok (.iconst 1, 1) := by decide +kernel
theorem dX9_feeds_65 : decode cX9_feeds 65 = .ok (.iaload, 1) := by decide +kernel
theorem dX9_feeds_66 : decode cX9_feeds 66 = .ok (.iadd, 1) := by decide +kernel
theorem dX9_feeds_67 : decode cX9_feeds 67 = .ok (.iastore, 1) := by decide +kernel
theorem dX9_feeds_68 : decode cX9_feeds 68 = .ok (.goto 41, 3) := by decide +kernel
theorem dX9_feeds_71 : decode cX9_feeds 71 = .ok (.aload_n 0, 1) := by decide +kernel
theorem dX9_feeds_72 : decode cX9_feeds 72 = .ok (.getfield 36, 3) := by decide +kernel
theorem dX9_feeds_75 : decode cX9_feeds 75 = .ok (.iload_n 1, 1) := by decide +kernel
theorem dX9_feeds_76 : decode cX9_feeds 76 = .ok (.aload_n 0, 1) := by decide +kernel
theorem dX9_feeds_77 : decode cX9_feeds 77 = .ok (.getfield 36, 3) := by decide +kernel
theorem dX9_feeds_80 : decode cX9_feeds 80 = .ok (.iload_n 1, 1) := by decide +kernel
theorem dX9_feeds_81 : decode cX9_feeds 81 = .ok (.iaload, 1) := by decide +kernel
theorem dX9_feeds_82 : decode cX9_feeds 82 = .ok (.aload_n 0, 1) := by decide +kernel
theorem dX9_feeds_83 : decode cX9_feeds 83 = .ok (.getfield 13, 3) := by decide +kernel
theorem dX9_feeds_86 : decode cX9_feeds 86 = .ok (.iconst 2, 1) := by decide +kernel
theorem dX9_feeds_87 : decode cX9_feeds 87 = .ok (.iaload, 1) := by decide +kernel
theorem dX9_feeds_88 : decode cX9_feeds 88 = .ok (.if_icmp .le 19, 3) := by decide +kernel
theorem dX9_feeds_91 : decode cX9_feeds 91 = .ok (.aload_n 0, 1) := by decide +kernel
theorem dX9_feeds_92 : decode cX9_feeds 92 = .ok (.getfield 36, 3) := by decide +kernel
theorem dX9_feeds_95 : decode cX9_feeds 95 = .ok (.iload_n 1, 1) := by decide +kernel
theorem dX9_feeds_96 : decode cX9_feeds 96 = .ok (.iaload, 1) := by decide +kernel
theorem dX9_feeds_97 : decode cX9_feeds 97 = .ok (.aload_n 0, 1) := by decide +kernel
theorem dX9_feeds_98 : decode cX9_feeds 98 = .ok (.getfield 13, 3) := by decide +kernel
theorem dX9_feeds_101 : decode cX9_feeds 101 = .ok (.iconst 2, 1) := by decide +kernel
theorem dX9_feeds_102 : decode cX9_feeds 102 = .ok (.iaload, 1) := by decide +kernel
theorem dX9_feeds_103 : decode cX9_feeds 103 = .ok (.isub, 1) := by decide +kernel
theorem dX9_feeds_104 : decode cX9_feeds 104 = .ok (.goto 4, 3) := by decide +kernel
theorem dX9_feeds_107 : decode cX9_feeds 107 = .ok (.iconst 0, 1) := by decide +kernel
theorem dX9_feeds_108 : decode cX9_feeds 108 = .ok (.iastore, 1) := by decide +kernel
theorem dX9_feeds_109 : decode cX9_feeds 109 = .ok (.return_, 1) := by decide +kernel
set_option maxRecDepth 20000 in
theorem ggX9_leaveAll_X9_where : GoodIn wsX9_leaveAll wsX9_where := goodIn_ca (lq_goor _ [8, 9, 10] rfl (by decide +kernel)) (goodIn_sub (fun _ h => List.mem_cons_of_mem _ (List.mem_append_right _ h)) gw_wsX90)
set_option maxRecDepth 20000 in
theorem gX9_leaveAll_X9_where : GoodIn wsX9_leaveAll (wsV RX9 232 RX9 yX9_where wsX9_where) := goodIn_app (lq_goor _ [4, 5, 6, 7] rfl (by decide +kernel)) ggX9_leaveAll_X9_where
set_option maxRecDepth 20000 in
theorem ggX9_leaveAll_X9_first : GoodIn wsX9_leaveAll wsX9_first := goodIn_ca (lq_goor _ [14, 1, 2, 15, 16, 17] rfl (by decide +kernel)) (goodIn_sub (fun _ h => List.mem_cons_of_mem _ (List.mem_append_right _ h)) gw_wsX90)
set_option maxRecDepth 20000 in
theorem gX9_leaveAll_X9_first : GoodIn wsX9_leaveAll (wsV RX9 236 RX9 yX9_first wsX9_first) := goodIn_app (lq_goor _ [11, 12, 13, 7] rfl (by decide +kernel)) ggX9_leaveAll_X9_first
set_option maxRecDepth 20000 in
theorem ggX9_leaveAll_X9_leaves : GoodIn wsX9_leaveAll wsX9_leaves := goodIn_ca (lq_goor _ [21, 16, 22, 3, 9, 10, 23, 15, 24, 25, 26, 27, 28, 29, 30, 31, 32, 33, 34, 7, 35, 36, 37, 38, 39, 40, 41, 42, 43, 44, 45, 46, 47, 48, 49, 50] rfl (by decide +kernel)) (goodIn_sub (fun _ h => List.mem_cons_of_mem _ (List.mem_append_right _ h)) gw_wsX90)
set_option maxRecDepth 20000 in
theorem gX9_leaveAll_X9_leaves : GoodIn wsX9_leaveAll (wsV RX9 239 RX9 yX9_leaves wsX9_leaves) := goodIn_app (lq_goor _ [18, 19, 20, 7] rfl (by decide +kernel)) ggX9_leaveAll_X9_leaves
theorem dX9_leaveAll_0 : decode cX9_leaveAll 0 = .ok (.iconst 0, 1) := by decide +kernel
theorem dX9_leaveAll_1 : decode cX9_leaveAll 1 = .ok (.istore_n 2, 1) := by decide +kernel
theorem dX9_leaveAll_2 : decode cX9_leaveAll 2 = .ok (.iload_n 2, 1) := by decide +kernel
theorem dX9_leaveAll_3 : decode cX9_leaveAll 3 = .ok (.aload_n 0, 1) := by decide +kernel
theorem dX9_leaveAll_4 : decode cX9_leaveAll 4 = .ok (.getfield 208, 3) := by decide +kernel
theorem dX9_leaveAll_7 : decode cX9_leaveAll 7 = .ok (.if_icmp .ge 38, 3) := by decide +kernel
theorem dX9_leaveAll_10 : decode cX9_leaveAll 10 = .ok (.aload_n 0, 1) := by decide +kernel
theorem dX9_leaveAll_11 : decode cX9_leaveAll 11 = .ok (.getfield 84, 3) := by decide +kernel
theorem dX9_leaveAll_14 : decode cX9_leaveAll 14 = .ok (.iload_n 2, 1) := by decide +kernel
theorem dX9_leaveAll_15 : decode cX9_leaveAll 15 = .ok (.aload_n 0, 1) := by decide +kernel
theorem dX9_leaveAll_16 : decode cX9_leaveAll 16 = .ok (.getfield 60, 3) := by decide +kernel
theorem dX9_leaveAll_19 : decode cX9_leaveAll 19 = .ok (.iload_n 2, 1) := by decide +kernel
theorem dX9_leaveAll_20 : decode cX9_leaveAll 20 = .ok (.iaload, 1) := by decide +kernel
theorem dX9_leaveAll_21 : decode cX9_leaveAll 21 = .ok (.ifCond .ne 12, 3) := by decide +kernel
theorem dX9_leaveAll_24 : decode cX9_leaveAll 24 = .ok (.aload_n 0, 1) := by decide +kernel
theorem dX9_leaveAll_25 : decode cX9_leaveAll 25 = .ok (.iload_n 2, 1) := by decide +kernel
theorem dX9_leaveAll_26 : decode cX9_leaveAll 26 = .ok (.invokevirtual 232, 3) := by decide +kernel
theorem dX9_leaveAll_29 : decode cX9_leaveAll 29 = .ok (.iload_n 1, 1) := by decide +kernel
theorem dX9_leaveAll_30 : decode cX9_leaveAll 30 = .ok (.if_icmp .eq 7, 3) := by decide +kernel
theorem dX9_leaveAll_33 : decode cX9_leaveAll 33 = .ok (.iconst 1, 1) := by decide +kernel
theorem dX9_leaveAll_34 : decode cX9_leaveAll 34 = .ok (.goto 4, 3) := by decide +kernel
theorem dX9_leaveAll_37 : decode cX9_leaveAll 37 = .ok (.iconst 0, 1) := by decide +kernel
theorem dX9_leaveAll_38 : decode cX9_leaveAll 38 = .ok (.bastore, 1) := by decide +kernel
theorem dX9_leaveAll_39 : decode cX9_leaveAll 39 = .ok (.iinc 2 1, 3) := by decide +kernel
theorem dX9_leaveAll_42 : decode cX9_leaveAll 42 = .ok (.goto (-40), 3) := by decide +kernel
theorem dX9_leaveAll_45 : decode cX9_leaveAll 45 = .ok (.aload_n 0, 1) := by decide +kernel
theorem dX9_leaveAll_46 : decode cX9_leaveAll 46 = .ok (.invokevirtual 236, 3) := by decide +kernel
theorem dX9_leaveAll_49 : decode cX9_leaveAll 49 = .ok (.istore_n 2, 1) := by decide +kernel
theorem dX9_leaveAll_50 : decode cX9_leaveAll 50 = .ok (.iload_n 2, 1) := by decide +kernel
theorem dX9_leaveAll_51 : decode cX9_leaveAll 51 = .ok (.ifCond .lt 24, 3) := by decide +kernel
theorem dX9_leaveAll_54 : decode cX9_leaveAll 54 = .ok (.aload_n 0, 1) := by decide +kernel
theorem dX9_leaveAll_55 : decode cX9_leaveAll 55 = .ok (.getfield 84, 3) := by decide +kernel
theorem dX9_leaveAll_58 : decode cX9_leaveAll 58 = .ok (.iload_n 2, 1) := by decide +kernel
theorem dX9_leaveAll_59 : decode cX9_leaveAll 59 = .ok (.iconst 1, 1) := by decide +kernel
theorem dX9_leaveAll_60 : decode cX9_leaveAll 60 = .ok (.bastore, 1) := by decide +kernel
theorem dX9_leaveAll_61 : decode cX9_leaveAll 61 = .ok (.aload_n 0, 1) := by decide +kernel
theorem dX9_leaveAll_62 : decode cX9_leaveAll 62 = .ok (.iload_n 2, 1) := by decide +kernel
theorem dX9_leaveAll_63 : decode cX9_leaveAll 63 = .ok (.iload_n 1, 1) := by decide +kernel
theorem dX9_leaveAll_64 : decode cX9_leaveAll 64 = .ok (.invokevirtual 239, 3) := by decide +kernel
theorem dX9_leaveAll_67 : decode cX9_leaveAll 67 = .ok (.aload_n 0, 1) := by decide +kernel
theorem dX9_leaveAll_68 : decode cX9_leaveAll 68 = .ok (.invokevirtual 236, 3) := by decide +kernel
theorem dX9_leaveAll_71 : decode cX9_leaveAll 71 = .ok (.istore_n 2, 1) := by decide +kernel
theorem dX9_leaveAll_72 : decode cX9_leaveAll 72 = .ok (.goto (-22), 3) := by decide +kernel
theorem dX9_leaveAll_75 : decode cX9_leaveAll 75 = .ok (.return_, 1) := by decide +kernel
theorem dX9_first_0 : decode cX9_first 0 = .ok (.iconst (-1), 1) := by decide +kernel
theorem dX9_first_1 : decode cX9_first 1 = .ok (.istore_n 1, 1) := by decide +kernel
theorem dX9_first_2 : decode cX9_first 2 = .ok (.iconst 0, 1) := by decide +kernel
theorem dX9_first_3 : decode cX9_first 3 = .ok (.istore_n 2, 1) := by decide +kernel
theorem dX9_first_4 : decode cX9_first 4 = .ok (.iload_n 2, 1) := by decide +kernel
theorem dX9_first_5 : decode cX9_first 5 = .ok (.aload_n 0, 1) := by decide +kernel
theorem dX9_first_6 : decode cX9_first 6 = .ok (.getfield 208, 3) := by decide +kernel
theorem dX9_first_9 : decode cX9_first 9 = .ok (.if_icmp .ge 92, 3) := by decide +kernel
theorem dX9_first_12 : decode cX9_first 12 = .ok (.aload_n 0, 1) := by decide +kernel
theorem dX9_first_13 : decode cX9_first 13 = .ok (.getfield 84, 3) := by decide +kernel
theorem dX9_first_16 : decode cX9_first 16 = .ok (.iload_n 2, 1) := by decide +kernel
theorem dX9_first_17 : decode cX9_first 17 = .ok (.baload, 1) := by decide +kernel
theorem dX9_first_18 : decode cX9_first 18 = .ok (.ifCond .eq 6, 3) := by decide +kernel
theorem dX9_first_21 : decode cX9_first 21 = .ok (.goto 74, 3) := by decide +kernel
theorem dX9_first_24 : decode cX9_first 24 = .ok (.iload_n 1, 1) := by decide +kernel
theorem dX9_first_25 : decode cX9_first 25 = .ok (.ifCond .lt 68, 3) := by decide +kernel
theorem dX9_first_28 : decode cX9_first 28 = .ok (.aload_n 0, 1) := by decide +kernel
theorem dX9_first_29 : decode cX9_first 29 = .ok (.getfield 42, 3) := by decide +kernel
theorem dX9_first_32 : decode cX9_first 32 = .ok (.aload_n 0, 1) := by decide +kernel
theorem dX9_first_33 : decode cX9_first 33 = .ok (.getfield 57, 3) := by decide +kernel
theorem dX9_first_36 : decode cX9_first 36 = .ok (.iload_n 2, 1) := by decide +kernel
theorem dX9_first_37 : decode cX9_first 37 = .ok (.iaload, 1) := by decide +kernel
theorem dX9_first_38 : decode cX9_first 38 = .ok (.iaload, 1) := by decide +kernel
theorem dX9_first_39 : decode cX9_first 39 = .ok (.aload_n 0, 1) := by decide +kernel
theorem dX9_first_40 : decode cX9_first 40 = .ok (.getfield 42, 3) := by decide +kernel
theorem dX9_first_43 : decode cX9_first 43 = .ok (.aload_n 0, 1) := by decide +kernel
theorem dX9_first_44 : decode cX9_first 44 = .ok (.getfield 57, 3) := by decide +kernel
theorem dX9_first_47 : decode cX9_first 47 = .ok (.iload_n 1, 1) := by decide +kernel
theorem dX9_first_48 : decode cX9_first 48 = .ok (.iaload, 1) := by decide +kernel
theorem dX9_first_49 : decode cX9_first 49 = .ok (.iaload, 1) := by decide +kernel
theorem dX9_first_50 : decode cX9_first 50 = .ok (.if_icmp .lt 43, 3) := by decide +kernel
theorem dX9_first_53 : decode cX9_first 53 = .ok (.aload_n 0, 1) := by decide +kernel
theorem dX9_first_54 : decode cX9_first 54 = .ok (.getfield 42, 3) := by decide +kernel
theorem dX9_first_57 : decode cX9_first 57 = .ok (.aload_n 0, 1) := by decide +kernel
theorem dX9_first_58 : decode cX9_first 58 = .ok (.getfield 57, 3) := by decide +kernel
theorem dX9_first_61 : decode cX9_first 61 = .ok (.iload_n 2, 1) := by decide +kernel
theorem dX9_first_62 : decode cX9_first 62 = .ok (.iaload, 1) := by decide +kernel
theorem dX9_first_63 : decode cX9_first 63 = .ok (.iaload, 1) := by decide +kernel
theorem dX9_first_64 : decode cX9_first 64 = .ok (.aload_n 0, 1) := by decide +kernel
theorem dX9_first_65 : decode cX9_first 65 = .ok (.getfield 42, 3) := by decide +kernel
theorem dX9_first_68 : decode cX9_first 68 = .ok (.aload_n 0, 1) := by decide +kernel
theorem dX9_first_69 : decode cX9_first 69 = .ok (.getfield 57, 3) := by decide +kernel
theorem dX9_first_72 : decode cX9_first 72 = .ok (.iload_n 1, 1) := by decide +kernel
theorem dX9_first_73 : decode cX9_first 73 = .ok (.iaload, 1) := by decide +kernel
theorem dX9_first_74 : decode cX9_first 74 = .ok (.iaload, 1) := by decide +kernel
theorem dX9_first_75 : decode cX9_first 75 = .ok (.if_icmp .ne 20, 3) := by decide +kernel
theorem dX9_first_78 : decode cX9_first 78 = .ok (.aload_n 0, 1) := by decide +kernel
theorem dX9_first_79 : decode cX9_first 79 = .ok (.getfield 66, 3) := by decide +kernel
theorem dX9_first_82 : decode cX9_first 82 = .ok (.iload_n 2, 1) := by decide +kernel
theorem dX9_first_83 : decode cX9_first 83 = .ok (.iaload, 1) := by decide +kernel
theorem dX9_first_84 : decode cX9_first 84 = .ok (.aload_n 0, 1) := by decide +kernel
theorem dX9_first_85 : decode cX9_first 85 = .ok (.getfield 66, 3) := by decide +kernel
theorem dX9_first_88 : decode cX9_first 88 = .ok (.iload_n 1, 1) := by decide +kernel
theorem dX9_first_89 : decode cX9_first 89 = .ok (.iaload, 1) := by decide +kernel
theorem dX9_first_90 : decode cX9_first 90 = .ok (.if_icmp .ge 5, 3) := by decide +kernel
theorem dX9_first_93 : decode cX9_first 93 = .ok (.iload_n 2, 1) := by decide +kernel
theorem dX9_first_94 : decode cX9_first 94 = .ok (.istore_n 1, 1) := by decide +kernel
theorem dX9_first_95 : decode cX9_first 95 = .ok (.iinc 2 1, 3) := by decide +kernel
theorem dX9_first_98 : decode cX9_first 98 = .ok (.goto (-94), 3) := by decide +kernel
theorem dX9_first_101 : decode cX9_first 101 = .ok (.iload_n 1, 1) := by decide +kernel
theorem dX9_first_102 : decode cX9_first 102 = .ok (.ireturn, 1) := by decide +kernel
set_option maxRecDepth 20000 in
theorem ggX9_leaves_X9_strongest : GoodIn wsX9_leaves wsX9_strongest := goodIn_ca (lq_goor _ [20, 21, 10, 8] rfl (by decide +kernel)) (goodIn_sub (fun _ h => List.mem_cons_of_mem _ (List.mem_append_right _ h)) gw_wsX90)
set_option maxRecDepth 20000 in
theorem gX9_leaves_X9_strongest : GoodIn wsX9_leaves (wsV RX9 243 RX9 yX9_strongest wsX9_strongest) := goodIn_app (lq_goor _ [16, 17, 18, 19] rfl (by decide +kernel)) ggX9_leaves_X9_strongest
set_option maxRecDepth 20000 in
theorem ggX9_leaves_X9_roadOf : GoodIn wsX9_leaves wsX9_roadOf := goodIn_ca (lq_goor _ [25, 26] rfl (by decide +kernel)) (goodIn_sub (fun _ h => List.mem_cons_of_mem _ (List.mem_append_right _ h)) gw_wsX90)
set_option maxRecDepth 20000 in
theorem gX9_leaves_X9_roadOf : GoodIn wsX9_leaves (wsV RX9 190 RX9 yX9_roadOf wsX9_roadOf) := goodIn_app (lq_goor _ [22, 23, 24, 19] rfl (by decide +kernel)) ggX9_leaves_X9_roadOf
set_option maxRecDepth 20000 in
theorem ggX9_leaves_X9_horsesAt : GoodIn wsX9_leaves wsX9_horsesAt := goodIn_ca (lq_goor _ [30, 21, 10] rfl (by decide +kernel)) (goodIn_sub (fun _ h => List.mem_cons_of_mem _ (List.mem_append_right _ h)) gw_wsX90)
set_option maxRecDepth 20000 in
theorem gX9_leaves_X9_horsesAt : GoodIn wsX9_leaves (wsV RX9 246 RX9 yX9_horsesAt wsX9_horsesAt) := goodIn_app (lq_goor _ [27, 28, 29, 19] rfl (by decide +kernel)) ggX9_leaves_X9_horsesAt
set_option maxRecDepth 20000 in
theorem ggX9_leaves_X9_timeOf : GoodIn wsX9_leaves wsX9_timeOf := goodIn_ca (lq_goor _ [34, 26, 35] rfl (by decide +kernel)) (goodIn_sub (fun _ h => List.mem_cons_of_mem _ (List.mem_append_right _ h)) gw_wsX90)
set_option maxRecDepth 20000 in
theorem gX9_leaves_X9_timeOf : GoodIn wsX9_leaves (wsV RX9 195 RX9 yX9_timeOf wsX9_timeOf) := goodIn_app (lq_goor _ [31, 32, 33, 19] rfl (by decide +kernel)) ggX9_leaves_X9_timeOf
theorem dX9_leaves_0 : decode cX9_leaves 0 = .ok (.aload_n 0, 1) := by decide +kernel
theorem dX9_leaves_1 : decode cX9_leaves 1 = .ok (.getfield 57, 3) := by decide +kernel
theorem dX9_leaves_4 : decode cX9_leaves 4 = .ok (.iload_n 1, 1) := by decide +kernel
theorem dX9_leaves_5 : decode cX9_leaves 5 = .ok (.iaload, 1) := by decide +kernel
theorem dX9_leaves_6 : decode cX9_leaves 6 = .ok (.istore_n 3, 1) := by decide +kernel
theorem dX9_leaves_7 : decode cX9_leaves 7 = .ok (.aload_n 0, 1) := by decide +kernel
theorem dX9_leaves_8 : decode cX9_leaves 8 = .ok (.getfield 45, 3) := by decide +kernel
theorem dX9_leaves_11 : decode cX9_leaves 11 = .ok (.bipush 12, 2) := by decide +kernel
theorem dX9_leaves_13 : decode cX9_leaves 13 = .ok (.iload_n 3, 1) := by decide +kernel
theorem dX9_leaves_14 : decode cX9_leaves 14 = .ok (.imul, 1) := by decide +kernel
theorem dX9_leaves_15 : decode cX9_leaves 15 = .ok (.iload_n 2, 1) := by decide +kernel
theorem dX9_leaves_16 : decode cX9_leaves 16 = .ok (.iadd, 1) := by decide +kernel
theorem dX9_leaves_17 : decode cX9_leaves 17 = .ok (.iaload, 1) := by decide +kernel
theorem dX9_leaves_18 : decode cX9_leaves 18 = .ok (.ifCond .lt 11, 3) := by decide +kernel
theorem dX9_leaves_21 : decode cX9_leaves 21 = .ok (.aload_n 0, 1) := by decide +kernel
theorem dX9_leaves_22 : decode cX9_leaves 22 = .ok (.getfield 60, 3) := by decide +kernel
theorem dX9_leaves_25 : decode cX9_leaves 25 = .ok (.iload_n 1, 1) := by decide +kernel
theorem dX9_leaves_26 : decode cX9_leaves 26 = .ok (.iconst 3, 1) := by decide +kernel
theorem dX9_leaves_27 : decode cX9_leaves 27 = .ok (.iastore, 1) := by decide +kernel
theorem dX9_leaves_28 : decode cX9_leaves 28 = .ok (.return_, 1) := by decide +kernel
theorem dX9_leaves_29 : decode cX9_leaves 29 = .ok (.aload_n 0, 1) := by decide +kernel
theorem dX9_leaves_30 : decode cX9_leaves 30 = .ok (.getfield 51, 3) := by decide +kernel
theorem dX9_leaves_33 : decode cX9_leaves 33 = .ok (.bipush 12, 2) := by decide +kernel
