theorem dX9_leaves_35 : decode cX9_leaves 35 = .ok (.iload_n 1, 1) := by decide +kernel
theorem dX9_leaves_36 : decode cX9_leaves 36 = .ok (.imul, 1) := by decide +kernel
theorem dX9_leaves_37 : decode cX9_leaves 37 = .ok (.aload_n 0, 1) := by decide +kernel
theorem dX9_leaves_38 : decode cX9_leaves 38 = .ok (.getfield 63, 3) := by decide +kernel
theorem dX9_leaves_41 : decode cX9_leaves 41 = .ok (.iload_n 1, 1) := by decide +kernel
theorem dX9_leaves_42 : decode cX9_leaves 42 = .ok (.iaload, 1) := by decide +kernel
theorem dX9_leaves_43 : decode cX9_leaves 43 = .ok (.iadd, 1) := by decide +kernel
theorem dX9_leaves_44 : decode cX9_leaves 44 = .ok (.iaload, 1) := by decide +kernel
theorem dX9_leaves_45 : decode cX9_leaves 45 = .ok (.istore 4, 2) := by decide +kernel
theorem dX9_leaves_47 : decode cX9_leaves 47 = .ok (.aload_n 0, 1) := by decide +kernel
theorem dX9_leaves_48 : decode cX9_leaves 48 = .ok (.iload_n 2, 1) := by decide +kernel
theorem dX9_leaves_49 : decode cX9_leaves 49 = .ok (.invokevirtual 243, 3) := by decide +kernel
theorem dX9_leaves_52 : decode cX9_leaves 52 = .ok (.istore 5, 2) := by decide +kernel
theorem dX9_leaves_54 : decode cX9_leaves 54 = .ok (.aload_n 0, 1) := by decide +kernel
theorem dX9_leaves_55 : decode cX9_leaves 55 = .ok (.iload_n 2, 1) := by decide +kernel
theorem dX9_leaves_56 : decode cX9_leaves 56 = .ok (.iload 4, 2) := by decide +kernel
theorem dX9_leaves_58 : decode cX9_leaves 58 = .ok (.invokevirtual 190, 3) := by decide +kernel
theorem dX9_leaves_61 : decode cX9_leaves 61 = .ok (.ifCond .eq 53, 3) := by decide +kernel
theorem dX9_leaves_64 : decode cX9_leaves 64 = .ok (.iload 5, 2) := by decide +kernel
theorem dX9_leaves_66 : decode cX9_leaves 66 = .ok (.ifCond .lt 48, 3) := by decide +kernel
theorem dX9_leaves_69 : decode cX9_leaves 69 = .ok (.aload_n 0, 1) := by decide +kernel
theorem dX9_leaves_70 : decode cX9_leaves 70 = .ok (.iload_n 2, 1) := by decide +kernel
theorem dX9_leaves_71 : decode cX9_leaves 71 = .ok (.invokevirtual 246, 3) := by decide +kernel
theorem dX9_leaves_74 : decode cX9_leaves 74 = .ok (.aload_n 0, 1) := by decide +kernel
theorem dX9_leaves_75 : decode cX9_leaves 75 = .ok (.getfield 13, 3) := by decide +kernel
theorem dX9_leaves_78 : decode cX9_leaves 78 = .ok (.iconst 2, 1) := by decide +kernel
theorem dX9_leaves_79 : decode cX9_leaves 79 = .ok (.aload_n 0, 1) := by decide +kernel
theorem dX9_leaves_80 : decode cX9_leaves 80 = .ok (.getfield 42, 3) := by decide +kernel
theorem dX9_leaves_83 : decode cX9_leaves 83 = .ok (.iload_n 3, 1) := by decide +kernel
theorem dX9_leaves_84 : decode cX9_leaves 84 = .ok (.iaload, 1) := by decide +kernel
theorem dX9_leaves_85 : decode cX9_leaves 85 = .ok (.iadd, 1) := by decide +kernel
theorem dX9_leaves_86 : decode cX9_leaves 86 = .ok (.iaload, 1) := by decide +kernel
theorem dX9_leaves_87 : decode cX9_leaves 87 = .ok (.if_icmp .le 27, 3) := by decide +kernel
theorem dX9_leaves_90 : decode cX9_leaves 90 = .ok (.aload_n 0, 1) := by decide +kernel
theorem dX9_leaves_91 : decode cX9_leaves 91 = .ok (.getfield 36, 3) := by decide +kernel
theorem dX9_leaves_94 : decode cX9_leaves 94 = .ok (.iload 5, 2) := by decide +kernel
theorem dX9_leaves_96 : decode cX9_leaves 96 = .ok (.iaload, 1) := by decide +kernel
theorem dX9_leaves_97 : decode cX9_leaves 97 = .ok (.aload_n 0, 1) := by decide +kernel
theorem dX9_leaves_98 : decode cX9_leaves 98 = .ok (.getfield 13, 3) := by decide +kernel
theorem dX9_leaves_101 : decode cX9_leaves 101 = .ok (.iconst 0, 1) := by decide +kernel
theorem dX9_leaves_102 : decode cX9_leaves 102 = .ok (.iaload, 1) := by decide +kernel
theorem dX9_leaves_103 : decode cX9_leaves 103 = .ok (.aload_n 0, 1) := by decide +kernel
theorem dX9_leaves_104 : decode cX9_leaves 104 = .ok (.iload_n 2, 1) := by decide +kernel
theorem dX9_leaves_105 : decode cX9_leaves 105 = .ok (.iload 4, 2) := by decide +kernel
theorem dX9_leaves_107 : decode cX9_leaves 107 = .ok (.invokevirtual 195, 3) := by decide +kernel
theorem dX9_leaves_110 : decode cX9_leaves 110 = .ok (.imul, 1) := by decide +kernel
theorem dX9_leaves_111 : decode cX9_leaves 111 = .ok (.if_icmp .ge 4, 3) := by decide +kernel
theorem dX9_leaves_114 : decode cX9_leaves 114 = .ok (.return_, 1) := by decide +kernel
theorem dX9_leaves_115 : decode cX9_leaves 115 = .ok (.aload_n 0, 1) := by decide +kernel
theorem dX9_leaves_116 : decode cX9_leaves 116 = .ok (.getfield 60, 3) := by decide +kernel
theorem dX9_leaves_119 : decode cX9_leaves 119 = .ok (.iload_n 1, 1) := by decide +kernel
theorem dX9_leaves_120 : decode cX9_leaves 120 = .ok (.iconst 1, 1) := by decide +kernel
theorem dX9_leaves_121 : decode cX9_leaves 121 = .ok (.iastore, 1) := by decide +kernel
theorem dX9_leaves_122 : decode cX9_leaves 122 = .ok (.aload_n 0, 1) := by decide +kernel
theorem dX9_leaves_123 : decode cX9_leaves 123 = .ok (.getfield 69, 3) := by decide +kernel
theorem dX9_leaves_126 : decode cX9_leaves 126 = .ok (.iload_n 1, 1) := by decide +kernel
theorem dX9_leaves_127 : decode cX9_leaves 127 = .ok (.iload 5, 2) := by decide +kernel
theorem dX9_leaves_129 : decode cX9_leaves 129 = .ok (.iastore, 1) := by decide +kernel
theorem dX9_leaves_130 : decode cX9_leaves 130 = .ok (.aload_n 0, 1) := by decide +kernel
theorem dX9_leaves_131 : decode cX9_leaves 131 = .ok (.getfield 39, 3) := by decide +kernel
theorem dX9_leaves_134 : decode cX9_leaves 134 = .ok (.iload 5, 2) := by decide +kernel
theorem dX9_leaves_136 : decode cX9_leaves 136 = .ok (.iconst (-1), 1) := by decide +kernel
theorem dX9_leaves_137 : decode cX9_leaves 137 = .ok (.iastore, 1) := by decide +kernel
theorem dX9_leaves_138 : decode cX9_leaves 138 = .ok (.aload_n 0, 1) := by decide +kernel
theorem dX9_leaves_139 : decode cX9_leaves 139 = .ok (.getfield 75, 3) := by decide +kernel
theorem dX9_leaves_142 : decode cX9_leaves 142 = .ok (.iload_n 1, 1) := by decide +kernel
theorem dX9_leaves_143 : decode cX9_leaves 143 = .ok (.aload_n 0, 1) := by decide +kernel
theorem dX9_leaves_144 : decode cX9_leaves 144 = .ok (.iload_n 2, 1) := by decide +kernel
theorem dX9_leaves_145 : decode cX9_leaves 145 = .ok (.iload 4, 2) := by decide +kernel
theorem dX9_leaves_147 : decode cX9_leaves 147 = .ok (.invokevirtual 195, 3) := by decide +kernel
theorem dX9_leaves_150 : decode cX9_leaves 150 = .ok (.iastore, 1) := by decide +kernel
theorem dX9_leaves_151 : decode cX9_leaves 151 = .ok (.aload_n 0, 1) := by decide +kernel
theorem dX9_leaves_152 : decode cX9_leaves 152 = .ok (.getfield 72, 3) := by decide +kernel
theorem dX9_leaves_155 : decode cX9_leaves 155 = .ok (.iload_n 1, 1) := by decide +kernel
theorem dX9_leaves_156 : decode cX9_leaves 156 = .ok (.aload_n 0, 1) := by decide +kernel
theorem dX9_leaves_157 : decode cX9_leaves 157 = .ok (.getfield 217, 3) := by decide +kernel
theorem dX9_leaves_160 : decode cX9_leaves 160 = .ok (.aload_n 0, 1) := by decide +kernel
theorem dX9_leaves_161 : decode cX9_leaves 161 = .ok (.getfield 75, 3) := by decide +kernel
theorem dX9_leaves_164 : decode cX9_leaves 164 = .ok (.iload_n 1, 1) := by decide +kernel
theorem dX9_leaves_165 : decode cX9_leaves 165 = .ok (.iaload, 1) := by decide +kernel
theorem dX9_leaves_166 : decode cX9_leaves 166 = .ok (.iadd, 1) := by decide +kernel
theorem dX9_leaves_167 : decode cX9_leaves 167 = .ok (.iastore, 1) := by decide +kernel
theorem dX9_leaves_168 : decode cX9_leaves 168 = .ok (.aload_n 0, 1) := by decide +kernel
theorem dX9_leaves_169 : decode cX9_leaves 169 = .ok (.getfield 78, 3) := by decide +kernel
theorem dX9_leaves_172 : decode cX9_leaves 172 = .ok (.iload_n 1, 1) := by decide +kernel
theorem dX9_leaves_173 : decode cX9_leaves 173 = .ok (.iconst 0, 1) := by decide +kernel
theorem dX9_leaves_174 : decode cX9_leaves 174 = .ok (.iastore, 1) := by decide +kernel
theorem dX9_leaves_175 : decode cX9_leaves 175 = .ok (.iconst 0, 1) := by decide +kernel
theorem dX9_leaves_176 : decode cX9_leaves 176 = .ok (.istore 6, 2) := by decide +kernel
theorem dX9_leaves_178 : decode cX9_leaves 178 = .ok (.iload 6, 2) := by decide +kernel
theorem dX9_leaves_180 : decode cX9_leaves 180 = .ok (.aload_n 0, 1) := by decide +kernel
theorem dX9_leaves_181 : decode cX9_leaves 181 = .ok (.getfield 205, 3) := by decide +kernel
theorem dX9_leaves_184 : decode cX9_leaves 184 = .ok (.if_icmp .ge 41, 3) := by decide +kernel
theorem dX9_leaves_187 : decode cX9_leaves 187 = .ok (.aload_n 0, 1) := by decide +kernel
theorem dX9_leaves_188 : decode cX9_leaves 188 = .ok (.getfield 45, 3) := by decide +kernel
theorem dX9_leaves_191 : decode cX9_leaves 191 = .ok (.bipush 12, 2) := by decide +kernel
theorem dX9_leaves_193 : decode cX9_leaves 193 = .ok (.iload 6, 2) := by decide +kernel
theorem dX9_leaves_195 : decode cX9_leaves 195 = .ok (.imul, 1) := by decide +kernel
theorem dX9_leaves_196 : decode cX9_leaves 196 = .ok (.iload_n 2, 1) := by decide +kernel
theorem dX9_leaves_197 : decode cX9_leaves 197 = .ok (.iadd, 1) := by decide +kernel
theorem dX9_leaves_198 : decode cX9_leaves 198 = .ok (.iaload, 1) := by decide +kernel
theorem dX9_leaves_199 : decode cX9_leaves 199 = .ok (.ifCond .lt 20, 3) := by decide +kernel
theorem dX9_leaves_202 : decode cX9_leaves 202 = .ok (.aload_n 0, 1) := by decide +kernel
theorem dX9_leaves_203 : decode cX9_leaves 203 = .ok (.getfield 78, 3) := by decide +kernel
theorem dX9_leaves_206 : decode cX9_leaves 206 = .ok (.iload_n 1, 1) := by decide +kernel
theorem dX9_leaves_207 : decode cX9_leaves 207 = .ok (.aload_n 0, 1) := by decide +kernel
theorem dX9_leaves_208 : decode cX9_leaves 208 = .ok (.getfield 78, 3) := by decide +kernel
theorem dX9_leaves_211 : decode cX9_leaves 211 = .ok (.iload_n 1, 1) := by decide +kernel
theorem dX9_leaves_212 : decode cX9_leaves 212 = .ok (.iaload, 1) := by decide +kernel
theorem dX9_leaves_213 : decode cX9_leaves 213 = .ok (.iconst 1, 1) := by decide +kernel
theorem dX9_leaves_214 : decode cX9_leaves 214 = .ok (.iload 6, 2) := by decide +kernel
theorem dX9_leaves_216 : decode cX9_leaves 216 = .ok (.ishl, 1) := by decide +kernel
theorem dX9_leaves_217 : decode cX9_leaves 217 = .ok (.ior, 1) := by decide +kernel
theorem dX9_leaves_218 : decode cX9_leaves 218 = .ok (.iastore, 1) := by decide +kernel
theorem dX9_leaves_219 : decode cX9_leaves 219 = .ok (.iinc 6 1, 3) := by decide +kernel
theorem dX9_leaves_222 : decode cX9_leaves 222 = .ok (.goto (-44), 3) := by decide +kernel
theorem dX9_leaves_225 : decode cX9_leaves 225 = .ok (.return_, 1) := by decide +kernel
theorem dX9_comes_0 : decode cX9_comes 0 = .ok (.aload_n 0, 1) := by decide +kernel
theorem dX9_comes_1 : decode cX9_comes 1 = .ok (.getfield 51, 3) := by decide +kernel
theorem dX9_comes_4 : decode cX9_comes 4 = .ok (.bipush 12, 2) := by decide +kernel
theorem dX9_comes_6 : decode cX9_comes 6 = .ok (.iload_n 1, 1) := by decide +kernel
theorem dX9_comes_7 : decode cX9_comes 7 = .ok (.imul, 1) := by decide +kernel
theorem dX9_comes_8 : decode cX9_comes 8 = .ok (.aload_n 0, 1) := by decide +kernel
theorem dX9_comes_9 : decode cX9_comes 9 = .ok (.getfield 63, 3) := by decide +kernel
theorem dX9_comes_12 : decode cX9_comes 12 = .ok (.iload_n 1, 1) := by decide +kernel
theorem dX9_comes_13 : decode cX9_comes 13 = .ok (.iaload, 1) := by decide +kernel
theorem dX9_comes_14 : decode cX9_comes 14 = .ok (.iadd, 1) := by decide +kernel
theorem dX9_comes_15 : decode cX9_comes 15 = .ok (.iaload, 1) := by decide +kernel
theorem dX9_comes_16 : decode cX9_comes 16 = .ok (.istore_n 2, 1) := by decide +kernel
theorem dX9_comes_17 : decode cX9_comes 17 = .ok (.aload_n 0, 1) := by decide +kernel
theorem dX9_comes_18 : decode cX9_comes 18 = .ok (.getfield 69, 3) := by decide +kernel
theorem dX9_comes_21 : decode cX9_comes 21 = .ok (.iload_n 1, 1) := by decide +kernel
theorem dX9_comes_22 : decode cX9_comes 22 = .ok (.iaload, 1) := by decide +kernel
theorem dX9_comes_23 : decode cX9_comes 23 = .ok (.istore_n 3, 1) := by decide +kernel
theorem dX9_comes_24 : decode cX9_comes 24 = .ok (.aload_n 0, 1) := by decide +kernel
theorem dX9_comes_25 : decode cX9_comes 25 = .ok (.getfield 36, 3) := by decide +kernel
theorem dX9_comes_28 : decode cX9_comes 28 = .ok (.iload_n 3, 1) := by decide +kernel
theorem dX9_comes_29 : decode cX9_comes 29 = .ok (.iaload, 1) := by decide +kernel
theorem dX9_comes_30 : decode cX9_comes 30 = .ok (.aload_n 0, 1) := by decide +kernel
theorem dX9_comes_31 : decode cX9_comes 31 = .ok (.getfield 13, 3) := by decide +kernel
theorem dX9_comes_34 : decode cX9_comes 34 = .ok (.iconst 0, 1) := by decide +kernel
theorem dX9_comes_35 : decode cX9_comes 35 = .ok (.iaload, 1) := by decide +kernel
theorem dX9_comes_36 : decode cX9_comes 36 = .ok (.aload_n 0, 1) := by decide +kernel
theorem dX9_comes_37 : decode cX9_comes 37 = .ok (.getfield 75, 3) := by decide +kernel
theorem dX9_comes_40 : decode cX9_comes 40 = .ok (.iload_n 1, 1) := by decide +kernel
theorem dX9_comes_41 : decode cX9_comes 41 = .ok (.iaload, 1) := by decide +kernel
theorem dX9_comes_42 : decode cX9_comes 42 = .ok (.imul, 1) := by decide +kernel
theorem dX9_comes_43 : decode cX9_comes 43 = .ok (.isub, 1) := by decide +kernel
theorem dX9_comes_44 : decode cX9_comes 44 = .ok (.istore 4, 2) := by decide +kernel
theorem dX9_comes_46 : decode cX9_comes 46 = .ok (.aload_n 0, 1) := by decide +kernel
theorem dX9_comes_47 : decode cX9_comes 47 = .ok (.getfield 36, 3) := by decide +kernel
theorem dX9_comes_50 : decode cX9_comes 50 = .ok (.iload_n 3, 1) := by decide +kernel
theorem dX9_comes_51 : decode cX9_comes 51 = .ok (.iload 4, 2) := by decide +kernel
theorem dX9_comes_53 : decode cX9_comes 53 = .ok (.ifCond .le 8, 3) := by decide +kernel
theorem dX9_comes_56 : decode cX9_comes 56 = .ok (.iload 4, 2) := by decide +kernel
theorem dX9_comes_58 : decode cX9_comes 58 = .ok (.goto 4, 3) := by decide +kernel
theorem dX9_comes_61 : decode cX9_comes 61 = .ok (.iconst 0, 1) := by decide +kernel
theorem dX9_comes_62 : decode cX9_comes 62 = .ok (.iastore, 1) := by decide +kernel
theorem dX9_comes_63 : decode cX9_comes 63 = .ok (.aload_n 0, 1) := by decide +kernel
theorem dX9_comes_64 : decode cX9_comes 64 = .ok (.getfield 39, 3) := by decide +kernel
theorem dX9_comes_67 : decode cX9_comes 67 = .ok (.iload_n 3, 1) := by decide +kernel
theorem dX9_comes_68 : decode cX9_comes 68 = .ok (.iload_n 2, 1) := by decide +kernel
theorem dX9_comes_69 : decode cX9_comes 69 = .ok (.iastore, 1) := by decide +kernel
theorem dX9_comes_70 : decode cX9_comes 70 = .ok (.aload_n 0, 1) := by decide +kernel
theorem dX9_comes_71 : decode cX9_comes 71 = .ok (.getfield 69, 3) := by decide +kernel
theorem dX9_comes_74 : decode cX9_comes 74 = .ok (.iload_n 1, 1) := by decide +kernel
theorem dX9_comes_75 : decode cX9_comes 75 = .ok (.iconst (-1), 1) := by decide +kernel
theorem dX9_comes_76 : decode cX9_comes 76 = .ok (.iastore, 1) := by decide +kernel
theorem dX9_comes_77 : decode cX9_comes 77 = .ok (.aload_n 0, 1) := by decide +kernel
theorem dX9_comes_78 : decode cX9_comes 78 = .ok (.getfield 81, 3) := by decide +kernel
theorem dX9_comes_81 : decode cX9_comes 81 = .ok (.iload_n 1, 1) := by decide +kernel
theorem dX9_comes_82 : decode cX9_comes 82 = .ok (.baload, 1) := by decide +kernel
theorem dX9_comes_83 : decode cX9_comes 83 = .ok (.ifCond .eq 11, 3) := by decide +kernel
theorem dX9_comes_86 : decode cX9_comes 86 = .ok (.aload_n 0, 1) := by decide +kernel
theorem dX9_comes_87 : decode cX9_comes 87 = .ok (.getfield 81, 3) := by decide +kernel
theorem dX9_comes_90 : decode cX9_comes 90 = .ok (.iload_n 1, 1) := by decide +kernel
theorem dX9_comes_91 : decode cX9_comes 91 = .ok (.iconst 0, 1) := by decide +kernel
theorem dX9_comes_92 : decode cX9_comes 92 = .ok (.bastore, 1) := by decide +kernel
theorem dX9_comes_93 : decode cX9_comes 93 = .ok (.return_, 1) := by decide +kernel
theorem dX9_comes_94 : decode cX9_comes 94 = .ok (.aload_n 0, 1) := by decide +kernel
theorem dX9_comes_95 : decode cX9_comes 95 = .ok (.getfield 63, 3) := by decide +kernel
theorem dX9_comes_98 : decode cX9_comes 98 = .ok (.iload_n 1, 1) := by decide +kernel
theorem dX9_comes_99 : decode cX9_comes 99 = .ok (.dup2, 1) := by decide +kernel
theorem dX9_comes_100 : decode cX9_comes 100 = .ok (.iaload, 1) := by decide +kernel
theorem dX9_comes_101 : decode cX9_comes 101 = .ok (.iconst 1, 1) := by decide +kernel
theorem dX9_comes_102 : decode cX9_comes 102 = .ok (.iadd, 1) := by decide +kernel
theorem dX9_comes_103 : decode cX9_comes 103 = .ok (.iastore, 1) := by decide +kernel
theorem dX9_comes_104 : decode cX9_comes 104 = .ok (.aload_n 0, 1) := by decide +kernel
theorem dX9_comes_105 : decode cX9_comes 105 = .ok (.getfield 66, 3) := by decide +kernel
theorem dX9_comes_108 : decode cX9_comes 108 = .ok (.iload_n 1, 1) := by decide +kernel
theorem dX9_comes_109 : decode cX9_comes 109 = .ok (.aload_n 0, 1) := by decide +kernel
theorem dX9_comes_110 : decode cX9_comes 110 = .ok (.getfield 217, 3) := by decide +kernel
theorem dX9_comes_113 : decode cX9_comes 113 = .ok (.iastore, 1) := by decide +kernel
theorem dX9_comes_114 : decode cX9_comes 114 = .ok (.aload_n 0, 1) := by decide +kernel
theorem dX9_comes_115 : decode cX9_comes 115 = .ok (.getfield 60, 3) := by decide +kernel
theorem dX9_comes_118 : decode cX9_comes 118 = .ok (.iload_n 1, 1) := by decide +kernel
theorem dX9_comes_119 : decode cX9_comes 119 = .ok (.aload_n 0, 1) := by decide +kernel
theorem dX9_comes_120 : decode cX9_comes 120 = .ok (.getfield 63, 3) := by decide +kernel
theorem dX9_comes_123 : decode cX9_comes 123 = .ok (.iload_n 1, 1) := by decide +kernel
theorem dX9_comes_124 : decode cX9_comes 124 = .ok (.iaload, 1) := by decide +kernel
theorem dX9_comes_125 : decode cX9_comes 125 = .ok (.aload_n 0, 1) := by decide +kernel
theorem dX9_comes_126 : decode cX9_comes 126 = .ok (.getfield 54, 3) := by decide +kernel
theorem dX9_comes_129 : decode cX9_comes 129 = .ok (.iload_n 1, 1) := by decide +kernel
theorem dX9_comes_130 : decode cX9_comes 130 = .ok (.iaload, 1) := by decide +kernel
theorem dX9_comes_131 : decode cX9_comes 131 = .ok (.if_icmp .ne 7, 3) := by decide +kernel
theorem dX9_comes_134 : decode cX9_comes 134 = .ok (.iconst 2, 1) := by decide +kernel
theorem dX9_comes_135 : decode cX9_comes 135 = .ok (.goto 4, 3) := by decide +kernel
theorem dX9_comes_138 : decode cX9_comes 138 = .ok (.iconst 0, 1) := by decide +kernel
theorem dX9_comes_139 : decode cX9_comes 139 = .ok (.iastore, 1) := by decide +kernel
theorem dX9_comes_140 : decode cX9_comes 140 = .ok (.aload_n 0, 1) := by decide +kernel
theorem dX9_comes_141 : decode cX9_comes 141 = .ok (.getfield 48, 3) := by decide +kernel
theorem dX9_comes_144 : decode cX9_comes 144 = .ok (.bipush 12, 2) := by decide +kernel
theorem dX9_comes_146 : decode cX9_comes 146 = .ok (.iload_n 1, 1) := by decide +kernel
theorem dX9_comes_147 : decode cX9_comes 147 = .ok (.imul, 1) := by decide +kernel
theorem dX9_comes_148 : decode cX9_comes 148 = .ok (.iload_n 2, 1) := by decide +kernel
theorem dX9_comes_149 : decode cX9_comes 149 = .ok (.iadd, 1) := by decide +kernel
theorem dX9_comes_150 : decode cX9_comes 150 = .ok (.iaload, 1) := by decide +kernel
theorem dX9_comes_151 : decode cX9_comes 151 = .ok (.ifCond .ge 18, 3) := by decide +kernel
theorem dX9_comes_154 : decode cX9_comes 154 = .ok (.aload_n 0, 1) := by decide +kernel
theorem dX9_comes_155 : decode cX9_comes 155 = .ok (.getfield 48, 3) := by decide +kernel
theorem dX9_comes_158 : decode cX9_comes 158 = .ok (.bipush 12, 2) := by decide +kernel
theorem dX9_comes_160 : decode cX9_comes 160 = .ok (.iload_n 1, 1) := by decide +kernel
theorem dX9_comes_161 : decode cX9_comes 161 = .ok (.imul, 1) := by decide +kernel
theorem dX9_comes_162 : decode cX9_comes 162 = .ok (.iload_n 2, 1) := by decide +kernel
theorem dX9_comes_163 : decode cX9_comes 163 = .ok (.iadd, 1) := by decide +kernel
theorem dX9_comes_164 : decode cX9_comes 164 = .ok (.aload_n 0, 1) := by decide +kernel
theorem dX9_comes_165 : decode cX9_comes 165 = .ok (.getfield 217, 3) := by decide +kernel
theorem dX9_comes_168 : decode cX9_comes 168 = .ok (.iastore, 1) := by decide +kernel
theorem dX9_comes_169 : decode cX9_comes 169 = .ok (.iconst 0, 1) := by decide +kernel
theorem dX9_comes_170 : decode cX9_comes 170 = .ok (.istore 5, 2) := by decide +kernel
theorem dX9_comes_172 : decode cX9_comes 172 = .ok (.iload 5, 2) := by decide +kernel
theorem dX9_comes_174 : decode cX9_comes 174 = .ok (.aload_n 0, 1) := by decide +kernel
theorem dX9_comes_175 : decode cX9_comes 175 = .ok (.getfield 205, 3) := by decide +kernel
theorem dX9_comes_178 : decode cX9_comes 178 = .ok (.if_icmp .ge 55, 3) := by decide +kernel
theorem dX9_comes_181 : decode cX9_comes 181 = .ok (.aload_n 0, 1) := by decide +kernel
theorem dX9_comes_182 : decode cX9_comes 182 = .ok (.getfield 78, 3) := by decide +kernel
theorem dX9_comes_185 : decode cX9_comes 185 = .ok (.iload_n 1, 1) := by decide +kernel
theorem dX9_comes_186 : decode cX9_comes 186 = .ok (.iaload, 1) := by decide +kernel
theorem dX9_comes_187 : decode cX9_comes 187 = .ok (.iload 5, 2) := by decide +kernel
theorem dX9_comes_189 : decode cX9_comes 189 = .ok (.ishr, 1) := by decide +kernel
theorem dX9_comes_190 : decode cX9_comes 190 = .ok (.iconst 1, 1) := by decide +kernel
theorem dX9_comes_191 : decode cX9_comes 191 = .ok (.iand, 1) := by decide +kernel
theorem dX9_comes_192 : decode cX9_comes 192 = .ok (.iconst 1, 1) := by decide +kernel
theorem dX9_comes_193 : decode cX9_comes 193 = .ok (.if_icmp .ne 34, 3) := by decide +kernel
theorem dX9_comes_196 : decode cX9_comes 196 = .ok (.aload_n 0, 1) := by decide +kernel
theorem dX9_comes_197 : decode cX9_comes 197 = .ok (.getfield 45, 3) := by decide +kernel
theorem dX9_comes_200 : decode cX9_comes 200 = .ok (.bipush 12, 2) := by decide +kernel
theorem dX9_comes_202 : decode cX9_comes 202 = .ok (.iload 5, 2) := by decide +kernel
theorem dX9_comes_204 : decode cX9_comes 204 = .ok (.imul, 1) := by decide +kernel
theorem dX9_comes_205 : decode cX9_comes 205 = .ok (.iload_n 2, 1) := by decide +kernel
theorem dX9_comes_206 : decode cX9_comes 206 = .ok (.iadd, 1) := by decide +kernel
theorem dX9_comes_207 : decode cX9_comes 207 = .ok (.iaload, 1) := by decide +kernel
theorem dX9_comes_208 : decode cX9_comes 208 = .ok (.ifCond .ge 19, 3) := by decide +kernel
theorem dX9_comes_211 : decode cX9_comes 211 = .ok (.aload_n 0, 1) := by decide +kernel
theorem dX9_comes_212 : decode cX9_comes 212 = .ok (.getfield 45, 3) := by decide +kernel
theorem dX9_comes_215 : decode cX9_comes 215 = .ok (.bipush 12, 2) := by decide +kernel
theorem dX9_comes_217 : decode cX9_comes 217 = .ok (.iload 5, 2) := by decide +kernel
theorem dX9_comes_219 : decode cX9_comes 219 = .ok (.imul, 1) := by decide +kernel
theorem dX9_comes_220 : decode cX9_comes 220 = .ok (.iload_n 2, 1) := by decide +kernel
theorem dX9_comes_221 : decode cX9_comes 221 = .ok (.iadd, 1) := by decide +kernel
theorem dX9_comes_222 : decode cX9_comes 222 = .ok (.aload_n 0, 1) := by decide +kernel
theorem dX9_comes_223 : decode cX9_comes 223 = .ok (.getfield 217, 3) := by decide +kernel
theorem dX9_comes_226 : decode cX9_comes 226 = .ok (.iastore, 1) := by decide +kernel
theorem dX9_comes_227 : decode cX9_comes 227 = .ok (.iinc 5 1, 3) := by decide +kernel
theorem dX9_comes_230 : decode cX9_comes 230 = .ok (.goto (-58), 3) := by decide +kernel
theorem dX9_comes_233 : decode cX9_comes 233 = .ok (.return_, 1) := by decide +kernel
set_option maxRecDepth 20000 in
theorem ggX9_rider_X9_isRider : GoodIn wsX9_rider wsX9_isRider := goodIn_ca (lq_goor _ [10, 11] rfl (by decide +kernel)) (goodIn_sub (fun _ h => List.mem_cons_of_mem _ (List.mem_append_right _ h)) gw_wsX90)
set_option maxRecDepth 20000 in
theorem gX9_rider_X9_isRider : GoodIn wsX9_rider (wsV RX9 220 RX9 yX9_isRider wsX9_isRider) := goodIn_app (lq_goor _ [6, 7, 8, 9] rfl (by decide +kernel)) ggX9_rider_X9_isRider
set_option maxRecDepth 20000 in
theorem ggX9_rider_X9_throwsIf : GoodIn wsX9_rider wsX9_throwsIf := goodIn_ca (lq_goor _ [15, 16] rfl (by decide +kernel)) (goodIn_sub (fun _ h => List.mem_cons_of_mem _ (List.mem_append_right _ h)) gw_wsX90)
set_option maxRecDepth 20000 in
theorem gX9_rider_X9_throwsIf : GoodIn wsX9_rider (wsV RX9 249 RX9 yX9_throwsIf wsX9_throwsIf) := goodIn_app (lq_goor _ [12, 13, 14, 9] rfl (by decide +kernel)) ggX9_rider_X9_throwsIf
set_option maxRecDepth 20000 in
theorem ggX9_rider_X9_where : GoodIn wsX9_rider wsX9_where := goodIn_ca (lq_goor _ [20, 21, 4] rfl (by decide +kernel)) (goodIn_sub (fun _ h => List.mem_cons_of_mem _ (List.mem_append_right _ h)) gw_wsX90)
set_option maxRecDepth 20000 in
theorem gX9_rider_X9_where : GoodIn wsX9_rider (wsV RX9 232 RX9 yX9_where wsX9_where) := goodIn_app (lq_goor _ [17, 18, 19, 9] rfl (by decide +kernel)) ggX9_rider_X9_where
theorem dX9_rider_0 : decode cX9_rider 0 = .ok (.aload_n 0, 1) := by decide +kernel
theorem dX9_rider_1 : decode cX9_rider 1 = .ok (.aload_n 0, 1) := by decide +kernel
theorem dX9_rider_2 : decode cX9_rider 2 = .ok (.iload_n 1, 1) := by decide +kernel
theorem dX9_rider_3 : decode cX9_rider 3 = .ok (.invokevirtual 220, 3) := by decide +kernel
theorem dX9_rider_6 : decode cX9_rider 6 = .ok (.ifCond .eq 12, 3) := by decide +kernel
theorem dX9_rider_9 : decode cX9_rider 9 = .ok (.iload_n 2, 1) := by decide +kernel
theorem dX9_rider_10 : decode cX9_rider 10 = .ok (.ifCond .lt 8, 3) := by decide +kernel
theorem dX9_rider_13 : decode cX9_rider 13 = .ok (.iload_n 2, 1) := by decide +kernel
theorem dX9_rider_14 : decode cX9_rider 14 = .ok (.iconst 5, 1) := by decide +kernel
theorem dX9_rider_15 : decode cX9_rider 15 = .ok (.if_icmp .le 7, 3) := by decide +kernel
theorem dX9_rider_18 : decode cX9_rider 18 = .ok (.iconst 1, 1) := by decide +kernel
theorem dX9_rider_19 : decode cX9_rider 19 = .ok (.goto 4, 3) := by decide +kernel
theorem dX9_rider_22 : decode cX9_rider 22 = .ok (.iconst 0, 1) := by decide +kernel
theorem dX9_rider_23 : decode cX9_rider 23 = .ok (.invokevirtual 249, 3) := by decide +kernel
theorem dX9_rider_26 : decode cX9_rider 26 = .ok (.ifCond .eq 5, 3) := by decide +kernel
theorem dX9_rider_29 : decode cX9_rider 29 = .ok (.iconst 0, 1) := by decide +kernel
theorem dX9_rider_30 : decode cX9_rider 30 = .ok (.ireturn, 1) := by decide +kernel
theorem dX9_rider_31 : decode cX9_rider 31 = .ok (.iload_n 2, 1) := by decide +kernel
theorem dX9_rider_32 : decode cX9_rider 32 = .ok (.tableswitch 84 0 4 #[36, 43, 49, 56, 77], 36) := by decide +kernel
theorem dX9_rider_68 : decode cX9_rider 68 = .ok (.aload_n 0, 1) := by decide +kernel
theorem dX9_rider_69 : decode cX9_rider 69 = .ok (.getfield 60, 3) := by decide +kernel
theorem dX9_rider_72 : decode cX9_rider 72 = .ok (.iload_n 1, 1) := by decide +kernel
theorem dX9_rider_73 : decode cX9_rider 73 = .ok (.iaload, 1) := by decide +kernel
theorem dX9_rider_74 : decode cX9_rider 74 = .ok (.ireturn, 1) := by decide +kernel
theorem dX9_rider_75 : decode cX9_rider 75 = .ok (.aload_n 0, 1) := by decide +kernel
theorem dX9_rider_76 : decode cX9_rider 76 = .ok (.iload_n 1, 1) := by decide +kernel
theorem dX9_rider_77 : decode cX9_rider 77 = .ok (.invokevirtual 232, 3) := by decide +kernel
theorem dX9_rider_80 : decode cX9_rider 80 = .ok (.ireturn, 1) := by decide +kernel
theorem dX9_rider_81 : decode cX9_rider 81 = .ok (.aload_n 0, 1) := by decide +kernel
theorem dX9_rider_82 : decode cX9_rider 82 = .ok (.getfield 66, 3) := by decide +kernel
theorem dX9_rider_85 : decode cX9_rider 85 = .ok (.iload_n 1, 1) := by decide +kernel
theorem dX9_rider_86 : decode cX9_rider 86 = .ok (.iaload, 1) := by decide +kernel
theorem dX9_rider_87 : decode cX9_rider 87 = .ok (.ireturn, 1) := by decide +kernel
theorem dX9_rider_88 : decode cX9_rider 88 = .ok (.aload_n 0, 1) := by decide +kernel
theorem dX9_rider_89 : decode cX9_rider 89 = .ok (.getfield 60, 3) := by decide +kernel
theorem dX9_rider_92 : decode cX9_rider 92 = .ok (.iload_n 1, 1) := by decide +kernel
theorem dX9_rider_93 : decode cX9_rider 93 = .ok (.iaload, 1) := by decide +kernel
theorem dX9_rider_94 : decode cX9_rider 94 = .ok (.iconst 1, 1) := by decide +kernel
theorem dX9_rider_95 : decode cX9_rider 95 = .ok (.if_icmp .ne 12, 3) := by decide +kernel
theorem dX9_rider_98 : decode cX9_rider 98 = .ok (.aload_n 0, 1) := by decide +kernel
theorem dX9_rider_99 : decode cX9_rider 99 = .ok (.getfield 69, 3) := by decide +kernel
theorem dX9_rider_102 : decode cX9_rider 102 = .ok (.iload_n 1, 1) := by decide +kernel
theorem dX9_rider_103 : decode cX9_rider 103 = .ok (.iaload, 1) := by decide +kernel
theorem dX9_rider_104 : decode cX9_rider 104 = .ok (.goto 4, 3) := by decide +kernel
theorem dX9_rider_107 : decode cX9_rider 107 = .ok (.iconst (-1), 1) := by decide +kernel
theorem dX9_rider_108 : decode cX9_rider 108 = .ok (.ireturn, 1) := by decide +kernel
theorem dX9_rider_109 : decode cX9_rider 109 = .ok (.aload_n 0, 1) := by decide +kernel
theorem dX9_rider_110 : decode cX9_rider 110 = .ok (.getfield 63, 3) := by decide +kernel
theorem dX9_rider_113 : decode cX9_rider 113 = .ok (.iload_n 1, 1) := by decide +kernel
theorem dX9_rider_114 : decode cX9_rider 114 = .ok (.iaload, 1) := by decide +kernel
theorem dX9_rider_115 : decode cX9_rider 115 = .ok (.ireturn, 1) := by decide +kernel
theorem dX9_rider_116 : decode cX9_rider 116 = .ok (.aload_n 0, 1) := by decide +kernel
theorem dX9_rider_117 : decode cX9_rider 117 = .ok (.getfield 57, 3) := by decide +kernel
theorem dX9_rider_120 : decode cX9_rider 120 = .ok (.iload_n 1, 1) := by decide +kernel
theorem dX9_rider_121 : decode cX9_rider 121 = .ok (.iaload, 1) := by decide +kernel
theorem dX9_rider_122 : decode cX9_rider 122 = .ok (.ireturn, 1) := by decide +kernel
set_option maxRecDepth 20000 in
theorem ggX9_way_X9_isRider : GoodIn wsX9_way wsX9_isRider := goodIn_ca (lq_goor _ [8, 9] rfl (by decide +kernel)) (goodIn_sub (fun _ h => List.mem_cons_of_mem _ (List.mem_append_right _ h)) gw_wsX90)
set_option maxRecDepth 20000 in
theorem gX9_way_X9_isRider : GoodIn wsX9_way (wsV RX9 220 RX9 yX9_isRider wsX9_isRider) := goodIn_app (lq_goor _ [4, 5, 6, 7] rfl (by decide +kernel)) ggX9_way_X9_isRider
theorem dX9_way_0 : decode cX9_way 0 = .ok (.aload_n 0, 1) := by decide +kernel
theorem dX9_way_1 : decode cX9_way 1 = .ok (.iconst 0, 1) := by decide +kernel
theorem dX9_way_2 : decode cX9_way 2 = .ok (.putfield 111, 3) := by decide +kernel
theorem dX9_way_5 : decode cX9_way 5 = .ok (.aload_n 0, 1) := by decide +kernel
theorem dX9_way_6 : decode cX9_way 6 = .ok (.iload_n 1, 1) := by decide +kernel
theorem dX9_way_7 : decode cX9_way 7 = .ok (.invokevirtual 220, 3) := by decide +kernel
theorem dX9_way_10 : decode cX9_way 10 = .ok (.ifCond .eq 31, 3) := by decide +kernel
theorem dX9_way_13 : decode cX9_way 13 = .ok (.iload_n 2, 1) := by decide +kernel
theorem dX9_way_14 : decode cX9_way 14 = .ok (.ifCond .lt 27, 3) := by decide +kernel
theorem dX9_way_17 : decode cX9_way 17 = .ok (.iload_n 2, 1) := by decide +kernel
theorem dX9_way_18 : decode cX9_way 18 = .ok (.aload_n 0, 1) := by decide +kernel
theorem dX9_way_19 : decode cX9_way 19 = .ok (.getfield 54, 3) := by decide +kernel
theorem dX9_way_22 : decode cX9_way 22 = .ok (.iload_n 1, 1) := by decide +kernel
theorem dX9_way_23 : decode cX9_way 23 = .ok (.iaload, 1) := by decide +kernel
theorem dX9_way_24 : decode cX9_way 24 = .ok (.if_icmp .ge 17, 3) := by decide +kernel
theorem dX9_way_27 : decode cX9_way 27 = .ok (.aload_n 0, 1) := by decide +kernel
theorem dX9_way_28 : decode cX9_way 28 = .ok (.getfield 51, 3) := by decide +kernel
theorem dX9_way_31 : decode cX9_way 31 = .ok (.bipush 12, 2) := by decide +kernel
theorem dX9_way_33 : decode cX9_way 33 = .ok (.iload_n 1, 1) := by decide +kernel
theorem dX9_way_34 : decode cX9_way 34 = .ok (.imul, 1) := by decide +kernel
theorem dX9_way_35 : decode cX9_way 35 = .ok (.iload_n 2, 1) := by decide +kernel
theorem dX9_way_36 : decode cX9_way 36 = .ok (.iadd, 1) := by decide +kernel
theorem dX9_way_37 : decode cX9_way 37 = .ok (.iaload, 1) := by decide +kernel
theorem dX9_way_38 : decode cX9_way 38 = .ok (.goto 4, 3) := by decide +kernel
theorem dX9_way_41 : decode cX9_way 41 = .ok (.iconst (-1), 1) := by decide +kernel
theorem dX9_way_42 : decode cX9_way 42 = .ok (.ireturn, 1) := by decide +kernel
set_option maxRecDepth 20000 in
theorem ggX9_steed_X9_throwsIf : GoodIn wsX9_steed wsX9_throwsIf := goodIn_ca (lq_goor _ [8, 9] rfl (by decide +kernel)) (goodIn_sub (fun _ h => List.mem_cons_of_mem _ (List.mem_append_right _ h)) gw_wsX90)
set_option maxRecDepth 20000 in
theorem gX9_steed_X9_throwsIf : GoodIn wsX9_steed (wsV RX9 249 RX9 yX9_throwsIf wsX9_throwsIf) := goodIn_app (lq_goor _ [4, 5, 6, 7] rfl (by decide +kernel)) ggX9_steed_X9_throwsIf
theorem dX9_steed_0 : decode cX9_steed 0 = .ok (.aload_n 0, 1) := by decide +kernel
theorem dX9_steed_1 : decode cX9_steed 1 = .ok (.iload_n 1, 1) := by decide +kernel
theorem dX9_steed_2 : decode cX9_steed 2 = .ok (.ifCond .lt 20, 3) := by decide +kernel
theorem dX9_steed_5 : decode cX9_steed 5 = .ok (.iload_n 1, 1) := by decide +kernel
theorem dX9_steed_6 : decode cX9_steed 6 = .ok (.aload_n 0, 1) := by decide +kernel
theorem dX9_steed_7 : decode cX9_steed 7 = .ok (.getfield 202, 3) := by decide +kernel
theorem dX9_steed_10 : decode cX9_steed 10 = .ok (.if_icmp .ge 12, 3) := by decide +kernel
theorem dX9_steed_13 : decode cX9_steed 13 = .ok (.iload_n 2, 1) := by decide +kernel
theorem dX9_steed_14 : decode cX9_steed 14 = .ok (.ifCond .lt 8, 3) := by decide +kernel
theorem dX9_steed_17 : decode cX9_steed 17 = .ok (.iload_n 2, 1) := by decide +kernel
theorem dX9_steed_18 : decode cX9_steed 18 = .ok (.iconst 1, 1) := by decide +kernel
theorem dX9_steed_19 : decode cX9_steed 19 = .ok (.if_icmp .le 7, 3) := by decide +kernel
theorem dX9_steed_22 : decode cX9_steed 22 = .ok (.iconst 1, 1) := by decide +kernel
theorem dX9_steed_23 : decode cX9_steed 23 = .ok (.goto 4, 3) := by decide +kernel
theorem dX9_steed_26 : decode cX9_steed 26 = .ok (.iconst 0, 1) := by decide +kernel
theorem dX9_steed_27 : decode cX9_steed 27 = .ok (.invokevirtual 249, 3) := by decide +kernel
theorem dX9_steed_30 : decode cX9_steed 30 = .ok (.ifCond .eq 5, 3) := by decide +kernel
theorem dX9_steed_33 : decode cX9_steed 33 = .ok (.iconst 0, 1) := by decide +kernel
theorem dX9_steed_34 : decode cX9_steed 34 = .ok (.ireturn, 1) := by decide +kernel
theorem dX9_steed_35 : decode cX9_steed 35 = .ok (.iload_n 2, 1) := by decide +kernel
theorem dX9_steed_36 : decode cX9_steed 36 = .ok (.ifCond .ne 12, 3) := by decide +kernel
theorem dX9_steed_39 : decode cX9_steed 39 = .ok (.aload_n 0, 1) := by decide +kernel
theorem dX9_steed_40 : decode cX9_steed 40 = .ok (.getfield 36, 3) := by decide +kernel
theorem dX9_steed_43 : decode cX9_steed 43 = .ok (.iload_n 1, 1) := by decide +kernel
theorem dX9_steed_44 : decode cX9_steed 44 = .ok (.iaload, 1) := by decide +kernel
theorem dX9_steed_45 : decode cX9_steed 45 = .ok (.goto 9, 3) := by decide +kernel
theorem dX9_steed_48 : decode cX9_steed 48 = .ok (.aload_n 0, 1) := by decide +kernel
theorem dX9_steed_49 : decode cX9_steed 49 = .ok (.getfield 39, 3) := by decide +kernel
theorem dX9_steed_52 : decode cX9_steed 52 = .ok (.iload_n 1, 1) := by decide +kernel
theorem dX9_steed_53 : decode cX9_steed 53 = .ok (.iaload, 1) := by decide +kernel
theorem dX9_steed_54 : decode cX9_steed 54 = .ok (.ireturn, 1) := by decide +kernel
set_option maxRecDepth 20000 in
theorem ggX9_at_X9_isStation : GoodIn wsX9_at wsX9_isStation := lq_goor _ [8] rfl (by decide +kernel)
set_option maxRecDepth 20000 in
theorem gX9_at_X9_isStation : GoodIn wsX9_at (va_wsS RX9 187 yX9_isStation wsX9_isStation) := goodIn_app (lq_goor _ [5, 6, 7] rfl (by decide +kernel)) ggX9_at_X9_isStation
set_option maxRecDepth 20000 in
theorem ggX9_at_X9_horsesAt : GoodIn wsX9_at wsX9_horsesAt := goodIn_ca (lq_goor _ [12, 13, 14] rfl (by decide +kernel)) (goodIn_sub (fun _ h => List.mem_cons_of_mem _ (List.mem_append_right _ h)) gw_wsX90)
set_option maxRecDepth 20000 in
theorem gX9_at_X9_horsesAt : GoodIn wsX9_at (wsV RX9 246 RX9 yX9_horsesAt wsX9_horsesAt) := goodIn_app (lq_goor _ [9, 10, 11, 7] rfl (by decide +kernel)) ggX9_at_X9_horsesAt
set_option maxRecDepth 20000 in
theorem ggX9_at_X9_where : GoodIn wsX9_at wsX9_where := goodIn_ca (lq_goor _ [18, 19, 20] rfl (by decide +kernel)) (goodIn_sub (fun _ h => List.mem_cons_of_mem _ (List.mem_append_right _ h)) gw_wsX90)
set_option maxRecDepth 20000 in
theorem gX9_at_X9_where : GoodIn wsX9_at (wsV RX9 232 RX9 yX9_where wsX9_where) := goodIn_app (lq_goor _ [15, 16, 17, 7] rfl (by decide +kernel)) ggX9_at_X9_where
theorem dX9_at_0 : decode cX9_at 0 = .ok (.aload_n 0, 1) := by decide +kernel
theorem dX9_at_1 : decode cX9_at 1 = .ok (.iconst 0, 1) := by decide +kernel
theorem dX9_at_2 : decode cX9_at 2 = .ok (.putfield 111, 3) := by decide +kernel
theorem dX9_at_5 : decode cX9_at 5 = .ok (.iload_n 1, 1) := by decide +kernel
theorem dX9_at_6 : decode cX9_at 6 = .ok (.invokestatic 187, 3) := by decide +kernel
theorem dX9_at_9 : decode cX9_at 9 = .ok (.ifCond .eq 12, 3) := by decide +kernel
theorem dX9_at_12 : decode cX9_at 12 = .ok (.iload_n 2, 1) := by decide +kernel
theorem dX9_at_13 : decode cX9_at 13 = .ok (.ifCond .lt 8, 3) := by decide +kernel
theorem dX9_at_16 : decode cX9_at 16 = .ok (.iload_n 2, 1) := by decide +kernel
theorem dX9_at_17 : decode cX9_at 17 = .ok (.iconst 2, 1) := by decide +kernel
theorem dX9_at_18 : decode cX9_at 18 = .ok (.if_icmp .le 5, 3) := by decide +kernel
theorem dX9_at_21 : decode cX9_at 21 = .ok (.iconst (-1), 1) := by decide +kernel
theorem dX9_at_22 : decode cX9_at 22 = .ok (.ireturn, 1) := by decide +kernel
theorem dX9_at_23 : decode cX9_at 23 = .ok (.iload_n 2, 1) := by decide +kernel
theorem dX9_at_24 : decode cX9_at 24 = .ok (.ifCond .ne 10, 3) := by decide +kernel
theorem dX9_at_27 : decode cX9_at 27 = .ok (.aload_n 0, 1) := by decide +kernel
theorem dX9_at_28 : decode cX9_at 28 = .ok (.getfield 33, 3) := by decide +kernel
theorem dX9_at_31 : decode cX9_at 31 = .ok (.iload_n 1, 1) := by decide +kernel
theorem dX9_at_32 : decode cX9_at 32 = .ok (.iaload, 1) := by decide +kernel
theorem dX9_at_33 : decode cX9_at 33 = .ok (.ireturn, 1) := by decide +kernel
theorem dX9_at_34 : decode cX9_at 34 = .ok (.iload_n 2, 1) := by decide +kernel
theorem dX9_at_35 : decode cX9_at 35 = .ok (.iconst 1, 1) := by decide +kernel
theorem dX9_at_36 : decode cX9_at 36 = .ok (.if_icmp .ne 9, 3) := by decide +kernel
theorem dX9_at_39 : decode cX9_at 39 = .ok (.aload_n 0, 1) := by decide +kernel
theorem dX9_at_40 : decode cX9_at 40 = .ok (.iload_n 1, 1) := by decide +kernel
theorem dX9_at_41 : decode cX9_at 41 = .ok (.invokevirtual 246, 3) := by decide +kernel
theorem dX9_at_44 : decode cX9_at 44 = .ok (.ireturn, 1) := by decide +kernel
theorem dX9_at_45 : decode cX9_at 45 = .ok (.iconst 0, 1) := by decide +kernel
theorem dX9_at_46 : decode cX9_at 46 = .ok (.istore_n 3, 1) := by decide +kernel
theorem dX9_at_47 : decode cX9_at 47 = .ok (.iconst 0, 1) := by decide +kernel
theorem dX9_at_48 : decode cX9_at 48 = .ok (.istore 4, 2) := by decide +kernel
theorem dX9_at_50 : decode cX9_at 50 = .ok (.iload 4, 2) := by decide +kernel
theorem dX9_at_52 : decode cX9_at 52 = .ok (.aload_n 0, 1) := by decide +kernel
theorem dX9_at_53 : decode cX9_at 53 = .ok (.getfield 208, 3) := by decide +kernel
theorem dX9_at_56 : decode cX9_at 56 = .ok (.if_icmp .ge 37, 3) := by decide +kernel
theorem dX9_at_59 : decode cX9_at 59 = .ok (.iload_n 3, 1) := by decide +kernel
theorem dX9_at_60 : decode cX9_at 60 = .ok (.aload_n 0, 1) := by decide +kernel
theorem dX9_at_61 : decode cX9_at 61 = .ok (.getfield 60, 3) := by decide +kernel
theorem dX9_at_64 : decode cX9_at 64 = .ok (.iload 4, 2) := by decide +kernel
theorem dX9_at_66 : decode cX9_at 66 = .ok (.iaload, 1) := by decide +kernel
theorem dX9_at_67 : decode cX9_at 67 = .ok (.ifCond .ne 17, 3) := by decide +kernel
theorem dX9_at_70 : decode cX9_at 70 = .ok (.aload_n 0, 1) := by decide +kernel
theorem dX9_at_71 : decode cX9_at 71 = .ok (.iload 4, 2) := by decide +kernel
theorem dX9_at_73 : decode cX9_at 73 = .ok (.invokevirtual 232, 3) := by decide +kernel
theorem dX9_at_76 : decode cX9_at 76 = .ok (.iload_n 1, 1) := by decide +kernel
theorem dX9_at_77 : decode cX9_at 77 = .ok (.if_icmp .ne 7, 3) := by decide +kernel
theorem dX9_at_80 : decode cX9_at 80 = .ok (.iconst 1, 1) := by decide +kernel
theorem dX9_at_81 : decode cX9_at 81 = .ok (.goto 4, 3) := by decide +kernel
theorem dX9_at_84 : decode cX9_at 84 = .ok (.iconst 0, 1) := by decide +kernel
theorem dX9_at_85 : decode cX9_at 85 = .ok (.iadd, 1) := by decide +kernel
theorem dX9_at_86 : decode cX9_at 86 = .ok (.istore_n 3, 1) := by decide +kernel
theorem dX9_at_87 : decode cX9_at 87 = .ok (.iinc 4 1, 3) := by decide +kernel
theorem dX9_at_90 : decode cX9_at 90 = .ok (.goto (-40), 3) := by decide +kernel
theorem dX9_at_93 : decode cX9_at 93 = .ok (.iload_n 3, 1) := by decide +kernel
theorem dX9_at_94 : decode cX9_at 94 = .ok (.ireturn, 1) := by decide +kernel
set_option maxRecDepth 20000 in
theorem ggX9_voided_X9_isTablet : GoodIn wsX9_voided wsX9_isTablet := goodIn_ca (lq_goor _ [7, 8] rfl (by decide +kernel)) (goodIn_sub (fun _ h => List.mem_cons_of_mem _ (List.mem_append_right _ h)) gw_wsX90)
set_option maxRecDepth 20000 in
theorem gX9_voided_X9_isTablet : GoodIn wsX9_voided (wsV RX9 211 RX9 yX9_isTablet wsX9_isTablet) := goodIn_app (lq_goor _ [3, 4, 5, 6] rfl (by decide +kernel)) ggX9_voided_X9_isTablet
set_option maxRecDepth 20000 in
theorem ggX9_voided_X9_isStation : GoodIn wsX9_voided wsX9_isStation := lq_goor _ [11] rfl (by decide +kernel)
set_option maxRecDepth 20000 in
theorem gX9_voided_X9_isStation : GoodIn wsX9_voided (va_wsS RX9 187 yX9_isStation wsX9_isStation) := goodIn_app (lq_goor _ [9, 10, 6] rfl (by decide +kernel)) ggX9_voided_X9_isStation
theorem dX9_voided_0 : decode cX9_voided 0 = .ok (.aload_n 0, 1) := by decide +kernel
theorem dX9_voided_1 : decode cX9_voided 1 = .ok (.iconst 0, 1) := by decide +kernel
theorem dX9_voided_2 : decode cX9_voided 2 = .ok (.putfield 111, 3) := by decide +kernel
theorem dX9_voided_5 : decode cX9_voided 5 = .ok (.aload_n 0, 1) := by decide +kernel
theorem dX9_voided_6 : decode cX9_voided 6 = .ok (.iload_n 1, 1) := by decide +kernel
theorem dX9_voided_7 : decode cX9_voided 7 = .ok (.invokevirtual 211, 3) := by decide +kernel
theorem dX9_voided_10 : decode cX9_voided 10 = .ok (.ifCond .eq 24, 3) := by decide +kernel
theorem dX9_voided_13 : decode cX9_voided 13 = .ok (.iload_n 2, 1) := by decide +kernel
theorem dX9_voided_14 : decode cX9_voided 14 = .ok (.invokestatic 187, 3) := by decide +kernel
theorem dX9_voided_17 : decode cX9_voided 17 = .ok (.ifCond .eq 17, 3) := by decide +kernel
theorem dX9_voided_20 : decode cX9_voided 20 = .ok (.aload_n 0, 1) := by decide +kernel
theorem dX9_voided_21 : decode cX9_voided 21 = .ok (.getfield 45, 3) := by decide +kernel
theorem dX9_voided_24 : decode cX9_voided 24 = .ok (.bipush 12, 2) := by decide +kernel
theorem dX9_voided_26 : decode cX9_voided 26 = .ok (.iload_n 1, 1) := by decide +kernel
theorem dX9_voided_27 : decode cX9_voided 27 = .ok (.imul, 1) := by decide +kernel
theorem dX9_voided_28 : decode cX9_voided 28 = .ok (.iload_n 2, 1) := by decide +kernel
theorem dX9_voided_29 : decode cX9_voided 29 = .ok (.iadd, 1) := by decide +kernel
theorem dX9_voided_30 : decode cX9_voided 30 = .ok (.iaload, 1) := by decide +kernel
theorem dX9_voided_31 : decode cX9_voided 31 = .ok (.goto 4, 3) := by decide +kernel
theorem dX9_voided_34 : decode cX9_voided 34 = .ok (.iconst (-1), 1) := by decide +kernel
theorem dX9_voided_35 : decode cX9_voided 35 = .ok (.ireturn, 1) := by decide +kernel
set_option maxRecDepth 20000 in
theorem ggX9_known_X9_isRider : GoodIn wsX9_known wsX9_isRider := goodIn_ca (lq_goor _ [7, 8] rfl (by decide +kernel)) (goodIn_sub (fun _ h => List.mem_cons_of_mem _ (List.mem_append_right _ h)) gw_wsX90)
set_option maxRecDepth 20000 in
theorem gX9_known_X9_isRider : GoodIn wsX9_known (wsV RX9 220 RX9 yX9_isRider wsX9_isRider) := goodIn_app (lq_goor _ [3, 4, 5, 6] rfl (by decide +kernel)) ggX9_known_X9_isRider
set_option maxRecDepth 20000 in
theorem ggX9_known_X9_isStation : GoodIn wsX9_known wsX9_isStation := lq_goor _ [11] rfl (by decide +kernel)
set_option maxRecDepth 20000 in
theorem gX9_known_X9_isStation : GoodIn wsX9_known (va_wsS RX9 187 yX9_isStation wsX9_isStation) := goodIn_app (lq_goor _ [9, 10, 6] rfl (by decide +kernel)) ggX9_known_X9_isStation
theorem dX9_known_0 : decode cX9_known 0 = .ok (.aload_n 0, 1) := by decide +kernel
theorem dX9_known_1 : decode cX9_known 1 = .ok (.iconst 0, 1) := by decide +kernel
theorem dX9_known_2 : decode cX9_known 2 = .ok (.putfield 111, 3) := by decide +kernel
theorem dX9_known_5 : decode cX9_known 5 = .ok (.aload_n 0, 1) := by decide +kernel
theorem dX9_known_6 : decode cX9_known 6 = .ok (.iload_n 1, 1) := by decide +kernel
theorem dX9_known_7 : decode cX9_known 7 = .ok (.invokevirtual 220, 3) := by decide +kernel
theorem dX9_known_10 : decode cX9_known 10 = .ok (.ifCond .eq 24, 3) := by decide +kernel
theorem dX9_known_13 : decode cX9_known 13 = .ok (.iload_n 2, 1) := by decide +kernel
theorem dX9_known_14 : decode cX9_known 14 = .ok (.invokestatic 187, 3) := by decide +kernel
theorem dX9_known_17 : decode cX9_known 17 = .ok (.ifCond .eq 17, 3) := by decide +kernel
theorem dX9_known_20 : decode cX9_known 20 = .ok (.aload_n 0, 1) := by decide +kernel
theorem dX9_known_21 : decode cX9_known 21 = .ok (.getfield 48, 3) := by decide +kernel
theorem dX9_known_24 : decode cX9_known 24 = .ok (.bipush 12, 2) := by decide +kernel
theorem dX9_known_26 : decode cX9_known 26 = .ok (.iload_n 1, 1) := by decide +kernel
theorem dX9_known_27 : decode cX9_known 27 = .ok (.imul, 1) := by decide +kernel
theorem dX9_known_28 : decode cX9_known 28 = .ok (.iload_n 2, 1) := by decide +kernel
theorem dX9_known_29 : decode cX9_known 29 = .ok (.iadd, 1) := by decide +kernel
theorem dX9_known_30 : decode cX9_known 30 = .ok (.iaload, 1) := by decide +kernel
theorem dX9_known_31 : decode cX9_known 31 = .ok (.goto 4, 3) := by decide +kernel
theorem dX9_known_34 : decode cX9_known 34 = .ok (.iconst (-1), 1) := by decide +kernel
theorem dX9_known_35 : decode cX9_known 35 = .ok (.ireturn, 1) := by decide +kernel
set_option maxRecDepth 20000 in
theorem ggX9_leading_X9_taken : GoodIn wsX9_leading wsX9_taken := goodIn_ca (lq_goor _ [15, 16, 2, 17] rfl (by decide +kernel)) (goodIn_sub (fun _ h => List.mem_cons_of_mem _ (List.mem_append_right _ h)) gw_wsX90)
set_option maxRecDepth 20000 in
theorem gX9_leading_X9_taken : GoodIn wsX9_leading (wsV RX9 162 RX9 yX9_taken wsX9_taken) := goodIn_app (lq_goor _ [11, 12, 13, 14] rfl (by decide +kernel)) ggX9_leading_X9_taken
set_option maxRecDepth 20000 in
theorem ggX9_leading_X9_horsesAt : GoodIn wsX9_leading wsX9_horsesAt := goodIn_ca (lq_goor _ [21, 22, 23] rfl (by decide +kernel)) (goodIn_sub (fun _ h => List.mem_cons_of_mem _ (List.mem_append_right _ h)) gw_wsX90)
set_option maxRecDepth 20000 in
theorem gX9_leading_X9_horsesAt : GoodIn wsX9_leading (wsV RX9 246 RX9 yX9_horsesAt wsX9_horsesAt) := goodIn_app (lq_goor _ [18, 19, 20, 14] rfl (by decide +kernel)) ggX9_leading_X9_horsesAt
set_option maxRecDepth 20000 in
theorem ggX9_leading_X9_reach : GoodIn wsX9_leading wsX9_reach := goodIn_ca (lq_goor _ [27, 7, 10, 28, 29, 30, 14, 31, 32, 33, 34, 35, 36, 37] rfl (by decide +kernel)) (goodIn_sub (fun _ h => List.mem_cons_of_mem _ (List.mem_append_right _ h)) gw_wsX90)
set_option maxRecDepth 20000 in
theorem gX9_leading_X9_reach : GoodIn wsX9_leading (wsV RX9 198 RX9 yX9_reach wsX9_reach) := goodIn_app (lq_goor _ [24, 25, 26, 14] rfl (by decide +kernel)) ggX9_leading_X9_reach
set_option maxRecDepth 20000 in
theorem ggX9_leading_X9_cheapest : GoodIn wsX9_leading wsX9_cheapest := goodIn_ca (lq_goor _ [41, 42, 5, 10, 43, 9, 44, 6, 8] rfl (by decide +kernel)) (goodIn_sub (fun _ h => List.mem_cons_of_mem _ (List.mem_append_right _ h)) gw_wsX90)
set_option maxRecDepth 20000 in
theorem gX9_leading_X9_cheapest : GoodIn wsX9_leading (wsV RX9 253 RX9 yX9_cheapest wsX9_cheapest) := goodIn_app (lq_goor _ [38, 39, 40, 14] rfl (by decide +kernel)) ggX9_leading_X9_cheapest
set_option maxRecDepth 20000 in
theorem ggX9_leading_X9_change : GoodIn wsX9_leading wsX9_change := goodIn_ca (lq_goor _ [48, 4, 44, 8, 43, 5] rfl (by decide +kernel)) (goodIn_sub (fun _ h => List.mem_cons_of_mem _ (List.mem_append_right _ h)) gw_wsX90)
set_option maxRecDepth 20000 in
theorem gX9_leading_X9_change : GoodIn wsX9_leading (wsV RX9 256 RX9 yX9_change wsX9_change) := goodIn_app (lq_goor _ [45, 46, 47, 14] rfl (by decide +kernel)) ggX9_leading_X9_change
theorem dX9_leading_0 : decode cX9_leading 0 = .ok (.aload_n 0, 1) := by decide +kernel
theorem dX9_leading_1 : decode cX9_leading 1 = .ok (.iconst 0, 1) := by decide +kernel
theorem dX9_leading_2 : decode cX9_leading 2 = .ok (.putfield 111, 3) := by decide +kernel
theorem dX9_leading_5 : decode cX9_leading 5 = .ok (.aload_n 0, 1) := by decide +kernel
theorem dX9_leading_6 : decode cX9_leading 6 = .ok (.invokevirtual 162, 3) := by decide +kernel
theorem dX9_leading_9 : decode cX9_leading 9 = .ok (.aload_n 0, 1) := by decide +kernel
theorem dX9_leading_10 : decode cX9_leading 10 = .ok (.getfield 122, 3) := by decide +kernel
theorem dX9_leading_13 : decode cX9_leading 13 = .ok (.bipush 12, 2) := by decide +kernel
theorem dX9_leading_15 : decode cX9_leading 15 = .ok (.if_icmp .eq 5, 3) := by decide +kernel
theorem dX9_leading_18 : decode cX9_leading 18 = .ok (.iconst (-1), 1) := by decide +kernel
theorem dX9_leading_19 : decode cX9_leading 19 = .ok (.ireturn, 1) := by decide +kernel
theorem dX9_leading_20 : decode cX9_leading 20 = .ok (.iconst 0, 1) := by decide +kernel
theorem dX9_leading_21 : decode cX9_leading 21 = .ok (.istore_n 1, 1) := by decide +kernel
theorem dX9_leading_22 : decode cX9_leading 22 = .ok (.iload_n 1, 1) := by decide +kernel
theorem dX9_leading_23 : decode cX9_leading 23 = .ok (.bipush 12, 2) := by decide +kernel
theorem dX9_leading_25 : decode cX9_leading 25 = .ok (.if_icmp .ge 26, 3) := by decide +kernel
theorem dX9_leading_28 : decode cX9_leading 28 = .ok (.aload_n 0, 1) := by decide +kernel
theorem dX9_leading_29 : decode cX9_leading 29 = .ok (.getfield 7, 3) := by decide +kernel
theorem dX9_leading_32 : decode cX9_leading 32 = .ok (.iload_n 1, 1) := by decide +kernel
theorem dX9_leading_33 : decode cX9_leading 33 = .ok (.baload, 1) := by decide +kernel
theorem dX9_leading_34 : decode cX9_leading 34 = .ok (.sipush 255, 3) := by decide +kernel
theorem dX9_leading_37 : decode cX9_leading 37 = .ok (.iand, 1) := by decide +kernel
theorem dX9_leading_38 : decode cX9_leading 38 = .ok (.bipush 60, 2) := by decide +kernel
theorem dX9_leading_40 : decode cX9_leading 40 = .ok (.if_icmp .le 5, 3) := by decide +kernel
theorem dX9_leading_43 : decode cX9_leading 43 = .ok (.iconst (-1), 1) := by decide +kernel
theorem dX9_leading_44 : decode cX9_leading 44 = .ok (.ireturn, 1) := by decide +kernel
theorem dX9_leading_45 : decode cX9_leading 45 = .ok (.iinc 1 1, 3) := by decide +kernel
theorem dX9_leading_48 : decode cX9_leading 48 = .ok (.goto (-26), 3) := by decide +kernel
theorem dX9_leading_51 : decode cX9_leading 51 = .ok (.iconst 0, 1) := by decide +kernel
theorem dX9_leading_52 : decode cX9_leading 52 = .ok (.istore_n 1, 1) := by decide +kernel
theorem dX9_leading_53 : decode cX9_leading 53 = .ok (.iload_n 1, 1) := by decide +kernel
theorem dX9_leading_54 : decode cX9_leading 54 = .ok (.bipush 12, 2) := by decide +kernel
theorem dX9_leading_56 : decode cX9_leading 56 = .ok (.if_icmp .ge 80, 3) := by decide +kernel
theorem dX9_leading_59 : decode cX9_leading 59 = .ok (.aload_n 0, 1) := by decide +kernel
theorem dX9_leading_60 : decode cX9_leading 60 = .ok (.getfield 96, 3) := by decide +kernel
theorem dX9_leading_63 : decode cX9_leading 63 = .ok (.iload_n 1, 1) := by decide +kernel
theorem dX9_leading_64 : decode cX9_leading 64 = .ok (.aload_n 0, 1) := by decide +kernel
theorem dX9_leading_65 : decode cX9_leading 65 = .ok (.getfield 7, 3) := by decide +kernel
theorem dX9_leading_68 : decode cX9_leading 68 = .ok (.iload_n 1, 1) := by decide +kernel
theorem dX9_leading_69 : decode cX9_leading 69 = .ok (.baload, 1) := by decide +kernel
theorem dX9_leading_70 : decode cX9_leading 70 = .ok (.iastore, 1) := by decide +kernel
theorem dX9_leading_71 : decode cX9_leading 71 = .ok (.aload_n 0, 1) := by decide +kernel
theorem dX9_leading_72 : decode cX9_leading 72 = .ok (.getfield 93, 3) := by decide +kernel
theorem dX9_leading_75 : decode cX9_leading 75 = .ok (.iload_n 1, 1) := by decide +kernel
theorem dX9_leading_76 : decode cX9_leading 76 = .ok (.aload_n 0, 1) := by decide +kernel
theorem dX9_leading_77 : decode cX9_leading 77 = .ok (.iload_n 1, 1) := by decide +kernel
theorem dX9_leading_78 : decode cX9_leading 78 = .ok (.invokevirtual 246, 3) := by decide +kernel
theorem dX9_leading_81 : decode cX9_leading 81 = .ok (.iastore, 1) := by decide +kernel
theorem dX9_leading_82 : decode cX9_leading 82 = .ok (.aload_n 0, 1) := by decide +kernel
theorem dX9_leading_83 : decode cX9_leading 83 = .ok (.iload_n 1, 1) := by decide +kernel
theorem dX9_leading_84 : decode cX9_leading 84 = .ok (.invokevirtual 198, 3) := by decide +kernel
theorem dX9_leading_87 : decode cX9_leading 87 = .ok (.iconst 0, 1) := by decide +kernel
theorem dX9_leading_88 : decode cX9_leading 88 = .ok (.istore_n 2, 1) := by decide +kernel
theorem dX9_leading_89 : decode cX9_leading 89 = .ok (.iload_n 2, 1) := by decide +kernel
theorem dX9_leading_90 : decode cX9_leading 90 = .ok (.bipush 12, 2) := by decide +kernel
theorem dX9_leading_92 : decode cX9_leading 92 = .ok (.if_icmp .ge 38, 3) := by decide +kernel
theorem dX9_leading_95 : decode cX9_leading 95 = .ok (.aload_n 0, 1) := by decide +kernel
theorem dX9_leading_96 : decode cX9_leading 96 = .ok (.getfield 90, 3) := by decide +kernel
theorem dX9_leading_99 : decode cX9_leading 99 = .ok (.bipush 12, 2) := by decide +kernel
theorem dX9_leading_101 : decode cX9_leading 101 = .ok (.iload_n 2, 1) := by decide +kernel
theorem dX9_leading_102 : decode cX9_leading 102 = .ok (.imul, 1) := by decide +kernel
theorem dX9_leading_103 : decode cX9_leading 103 = .ok (.iload_n 1, 1) := by decide +kernel
theorem dX9_leading_104 : decode cX9_leading 104 = .ok (.iadd, 1) := by decide +kernel
theorem dX9_leading_105 : decode cX9_leading 105 = .ok (.aload_n 0, 1) := by decide +kernel
theorem dX9_leading_106 : decode cX9_leading 106 = .ok (.getfield 30, 3) := by decide +kernel
theorem dX9_leading_109 : decode cX9_leading 109 = .ok (.iload_n 2, 1) := by decide +kernel
theorem dX9_leading_110 : decode cX9_leading 110 = .ok (.iaload, 1) := by decide +kernel
theorem dX9_leading_111 : decode cX9_leading 111 = .ok (.iastore, 1) := by decide +kernel
theorem dX9_leading_112 : decode cX9_leading 112 = .ok (.aload_n 0, 1) := by decide +kernel
theorem dX9_leading_113 : decode cX9_leading 113 = .ok (.getfield 87, 3) := by decide +kernel
theorem dX9_leading_116 : decode cX9_leading 116 = .ok (.bipush 12, 2) := by decide +kernel
theorem dX9_leading_118 : decode cX9_leading 118 = .ok (.iload_n 2, 1) := by decide +kernel
theorem dX9_leading_119 : decode cX9_leading 119 = .ok (.imul, 1) := by decide +kernel
theorem dX9_leading_120 : decode cX9_leading 120 = .ok (.iload_n 1, 1) := by decide +kernel
theorem dX9_leading_121 : decode cX9_leading 121 = .ok (.iadd, 1) := by decide +kernel
theorem dX9_leading_122 : decode cX9_leading 122 = .ok (.iconst 0, 1) := by decide +kernel
theorem dX9_leading_123 : decode cX9_leading 123 = .ok (.iastore, 1) := by decide +kernel
theorem dX9_leading_124 : decode cX9_leading 124 = .ok (.iinc 2 1, 3) := by decide +kernel
theorem dX9_leading_127 : decode cX9_leading 127 = .ok (.goto (-38), 3) := by decide +kernel
theorem dX9_leading_130 : decode cX9_leading 130 = .ok (.iinc 1 1, 3) := by decide +kernel
theorem dX9_leading_133 : decode cX9_leading 133 = .ok (.goto (-80), 3) := by decide +kernel
theorem dX9_leading_136 : decode cX9_leading 136 = .ok (.iconst 0, 1) := by decide +kernel
theorem dX9_leading_137 : decode cX9_leading 137 = .ok (.istore_n 1, 1) := by decide +kernel
theorem dX9_leading_138 : decode cX9_leading 138 = .ok (.iconst (-1), 1) := by decide +kernel
theorem dX9_leading_139 : decode cX9_leading 139 = .ok (.istore_n 2, 1) := by decide +kernel
theorem dX9_leading_140 : decode cX9_leading 140 = .ok (.iconst 0, 1) := by decide +kernel
theorem dX9_leading_141 : decode cX9_leading 141 = .ok (.istore_n 3, 1) := by decide +kernel
theorem dX9_leading_142 : decode cX9_leading 142 = .ok (.iload_n 3, 1) := by decide +kernel
theorem dX9_leading_143 : decode cX9_leading 143 = .ok (.bipush 12, 2) := by decide +kernel
theorem dX9_leading_145 : decode cX9_leading 145 = .ok (.if_icmp .ge 24, 3) := by decide +kernel
theorem dX9_leading_148 : decode cX9_leading 148 = .ok (.aload_n 0, 1) := by decide +kernel
theorem dX9_leading_149 : decode cX9_leading 149 = .ok (.getfield 96, 3) := by decide +kernel
theorem dX9_leading_152 : decode cX9_leading 152 = .ok (.iload_n 3, 1) := by decide +kernel
theorem dX9_leading_153 : decode cX9_leading 153 = .ok (.iaload, 1) := by decide +kernel
theorem dX9_leading_154 : decode cX9_leading 154 = .ok (.ifCond .le 7, 3) := by decide +kernel
theorem dX9_leading_157 : decode cX9_leading 157 = .ok (.iload_n 3, 1) := by decide +kernel
theorem dX9_leading_158 : decode cX9_leading 158 = .ok (.goto 4, 3) := by decide +kernel
theorem dX9_leading_161 : decode cX9_leading 161 = .ok (.iload_n 2, 1) := by decide +kernel
theorem dX9_leading_162 : decode cX9_leading 162 = .ok (.istore_n 2, 1) := by decide +kernel
theorem dX9_leading_163 : decode cX9_leading 163 = .ok (.iinc 3 1, 3) := by decide +kernel
theorem dX9_leading_166 : decode cX9_leading 166 = .ok (.goto (-24), 3) := by decide +kernel
theorem dX9_leading_169 : decode cX9_leading 169 = .ok (.iload_n 2, 1) := by decide +kernel
theorem dX9_leading_170 : decode cX9_leading 170 = .ok (.ifCond .ge 5, 3) := by decide +kernel
theorem dX9_leading_173 : decode cX9_leading 173 = .ok (.iload_n 1, 1) := by decide +kernel
theorem dX9_leading_174 : decode cX9_leading 174 = .ok (.ireturn, 1) := by decide +kernel
theorem dX9_leading_175 : decode cX9_leading 175 = .ok (.aload_n 0, 1) := by decide +kernel
theorem dX9_leading_176 : decode cX9_leading 176 = .ok (.invokevirtual 253, 3) := by decide +kernel
theorem dX9_leading_179 : decode cX9_leading 179 = .ok (.iconst (-1), 1) := by decide +kernel
theorem dX9_leading_180 : decode cX9_leading 180 = .ok (.istore_n 3, 1) := by decide +kernel
theorem dX9_leading_181 : decode cX9_leading 181 = .ok (.iconst 0, 1) := by decide +kernel
theorem dX9_leading_182 : decode cX9_leading 182 = .ok (.istore 4, 2) := by decide +kernel
theorem dX9_leading_184 : decode cX9_leading 184 = .ok (.iload 4, 2) := by decide +kernel
theorem dX9_leading_186 : decode cX9_leading 186 = .ok (.bipush 12, 2) := by decide +kernel
theorem dX9_leading_188 : decode cX9_leading 188 = .ok (.if_icmp .ge 54, 3) := by decide +kernel
theorem dX9_leading_191 : decode cX9_leading 191 = .ok (.aload_n 0, 1) := by decide +kernel
theorem dX9_leading_192 : decode cX9_leading 192 = .ok (.getfield 96, 3) := by decide +kernel
theorem dX9_leading_195 : decode cX9_leading 195 = .ok (.iload 4, 2) := by decide +kernel
theorem dX9_leading_197 : decode cX9_leading 197 = .ok (.iaload, 1) := by decide +kernel
theorem dX9_leading_198 : decode cX9_leading 198 = .ok (.ifCond .le 38, 3) := by decide +kernel
theorem dX9_leading_201 : decode cX9_leading 201 = .ok (.aload_n 0, 1) := by decide +kernel
theorem dX9_leading_202 : decode cX9_leading 202 = .ok (.getfield 102, 3) := by decide +kernel
theorem dX9_leading_205 : decode cX9_leading 205 = .ok (.iload 4, 2) := by decide +kernel
theorem dX9_leading_207 : decode cX9_leading 207 = .ok (.iaload, 1) := by decide +kernel
theorem dX9_leading_208 : decode cX9_leading 208 = .ok (.ldc 194, 2) := by decide +kernel
theorem dX9_leading_210 : decode cX9_leading 210 = .ok (.if_icmp .ge 26, 3) := by decide +kernel
theorem dX9_leading_213 : decode cX9_leading 213 = .ok (.iload_n 3, 1) := by decide +kernel
theorem dX9_leading_214 : decode cX9_leading 214 = .ok (.ifCond .lt 19, 3) := by decide +kernel
theorem dX9_leading_217 : decode cX9_leading 217 = .ok (.aload_n 0, 1) := by decide +kernel
theorem dX9_leading_218 : decode cX9_leading 218 = .ok (.getfield 102, 3) := by decide +kernel
theorem dX9_leading_221 : decode cX9_leading 221 = .ok (.iload 4, 2) := by decide +kernel
theorem dX9_leading_223 : decode cX9_leading 223 = .ok (.iaload, 1) := by decide +kernel
theorem dX9_leading_224 : decode cX9_leading 224 = .ok (.aload_n 0, 1) := by decide +kernel
theorem dX9_leading_225 : decode cX9_leading 225 = .ok (.getfield 102, 3) := by decide +kernel
theorem dX9_leading_228 : decode cX9_leading 228 = .ok (.iload_n 3, 1) := by decide +kernel
theorem dX9_leading_229 : decode cX9_leading 229 = .ok (.iaload, 1) := by decide +kernel
theorem dX9_leading_230 : decode cX9_leading 230 = .ok (.if_icmp .ge 6, 3) := by decide +kernel
theorem dX9_leading_233 : decode cX9_leading 233 = .ok (.iload 4, 2) := by decide +kernel
theorem dX9_leading_235 : decode cX9_leading 235 = .ok (.istore_n 3, 1) := by decide +kernel
theorem dX9_leading_236 : decode cX9_leading 236 = .ok (.iinc 4 1, 3) := by decide +kernel
theorem dX9_leading_239 : decode cX9_leading 239 = .ok (.goto (-55), 3) := by decide +kernel
theorem dX9_leading_242 : decode cX9_leading 242 = .ok (.iload_n 3, 1) := by decide +kernel
theorem dX9_leading_243 : decode cX9_leading 243 = .ok (.ifCond .ge 6, 3) := by decide +kernel
theorem dX9_leading_246 : decode cX9_leading 246 = .ok (.bipush (-2), 2) := by decide +kernel
theorem dX9_leading_248 : decode cX9_leading 248 = .ok (.ireturn, 1) := by decide +kernel
theorem dX9_leading_249 : decode cX9_leading 249 = .ok (.iload_n 1, 1) := by decide +kernel
theorem dX9_leading_250 : decode cX9_leading 250 = .ok (.aload_n 0, 1) := by decide +kernel
theorem dX9_leading_251 : decode cX9_leading 251 = .ok (.getfield 102, 3) := by decide +kernel
theorem dX9_leading_254 : decode cX9_leading 254 = .ok (.iload_n 3, 1) := by decide +kernel
theorem dX9_leading_255 : decode cX9_leading 255 = .ok (.iaload, 1) := by decide +kernel
theorem dX9_leading_256 : decode cX9_leading 256 = .ok (.iadd, 1) := by decide +kernel
theorem dX9_leading_257 : decode cX9_leading 257 = .ok (.istore_n 1, 1) := by decide +kernel
theorem dX9_leading_258 : decode cX9_leading 258 = .ok (.aload_n 0, 1) := by decide +kernel
theorem dX9_leading_259 : decode cX9_leading 259 = .ok (.iload_n 3, 1) := by decide +kernel
theorem dX9_leading_260 : decode cX9_leading 260 = .ok (.invokevirtual 256, 3) := by decide +kernel
theorem dX9_leading_263 : decode cX9_leading 263 = .ok (.goto (-125), 3) := by decide +kernel
theorem dX9_cheapest_0 : decode cX9_cheapest 0 = .ok (.iconst 0, 1) := by decide +kernel
theorem dX9_cheapest_1 : decode cX9_cheapest 1 = .ok (.istore_n 1, 1) := by decide +kernel
theorem dX9_cheapest_2 : decode cX9_cheapest 2 = .ok (.iload_n 1, 1) := by decide +kernel
theorem dX9_cheapest_3 : decode cX9_cheapest 3 = .ok (.bipush 12, 2) := by decide +kernel
theorem dX9_cheapest_5 : decode cX9_cheapest 5 = .ok (.if_icmp .ge 52, 3) := by decide +kernel
theorem dX9_cheapest_8 : decode cX9_cheapest 8 = .ok (.aload_n 0, 1) := by decide +kernel
theorem dX9_cheapest_9 : decode cX9_cheapest 9 = .ok (.getfield 99, 3) := by decide +kernel
theorem dX9_cheapest_12 : decode cX9_cheapest 12 = .ok (.iload_n 1, 1) := by decide +kernel
theorem dX9_cheapest_13 : decode cX9_cheapest 13 = .ok (.aload_n 0, 1) := by decide +kernel
theorem dX9_cheapest_14 : decode cX9_cheapest 14 = .ok (.getfield 93, 3) := by decide +kernel
theorem dX9_cheapest_17 : decode cX9_cheapest 17 = .ok (.iload_n 1, 1) := by decide +kernel
theorem dX9_cheapest_18 : decode cX9_cheapest 18 = .ok (.iaload, 1) := by decide +kernel
theorem dX9_cheapest_19 : decode cX9_cheapest 19 = .ok (.ifCond .le 7, 3) := by decide +kernel
theorem dX9_cheapest_22 : decode cX9_cheapest 22 = .ok (.iconst 0, 1) := by decide +kernel
theorem dX9_cheapest_23 : decode cX9_cheapest 23 = .ok (.goto 5, 3) := by decide +kernel
theorem dX9_cheapest_26 : decode cX9_cheapest 26 = .ok (.ldc 194, 2) := by decide +kernel
theorem dX9_cheapest_28 : decode cX9_cheapest 28 = .ok (.iastore, 1) := by decide +kernel
theorem dX9_cheapest_29 : decode cX9_cheapest 29 = .ok (.aload_n 0, 1) := by decide +kernel
theorem dX9_cheapest_30 : decode cX9_cheapest 30 = .ok (.getfield 105, 3) := by decide +kernel
theorem dX9_cheapest_33 : decode cX9_cheapest 33 = .ok (.iload_n 1, 1) := by decide +kernel
theorem dX9_cheapest_34 : decode cX9_cheapest 34 = .ok (.iconst (-1), 1) := by decide +kernel
theorem dX9_cheapest_35 : decode cX9_cheapest 35 = .ok (.iastore, 1) := by decide +kernel
theorem dX9_cheapest_36 : decode cX9_cheapest 36 = .ok (.aload_n 0, 1) := by decide +kernel
theorem dX9_cheapest_37 : decode cX9_cheapest 37 = .ok (.getfield 102, 3) := by decide +kernel
theorem dX9_cheapest_40 : decode cX9_cheapest 40 = .ok (.iload_n 1, 1) := by decide +kernel
theorem dX9_cheapest_41 : decode cX9_cheapest 41 = .ok (.ldc 194, 2) := by decide +kernel
theorem dX9_cheapest_43 : decode cX9_cheapest 43 = .ok (.iastore, 1) := by decide +kernel
theorem dX9_cheapest_44 : decode cX9_cheapest 44 = .ok (.aload_n 0, 1) := by decide +kernel
theorem dX9_cheapest_45 : decode cX9_cheapest 45 = .ok (.getfield 108, 3) := by decide +kernel
theorem dX9_cheapest_48 : decode cX9_cheapest 48 = .ok (.iload_n 1, 1) := by decide +kernel
theorem dX9_cheapest_49 : decode cX9_cheapest 49 = .ok (.iconst (-1), 1) := by decide +kernel
theorem dX9_cheapest_50 : decode cX9_cheapest 50 = .ok (.iastore, 1) := by decide +kernel
theorem dX9_cheapest_51 : decode cX9_cheapest 51 = .ok (.iinc 1 1, 3) := by decide +kernel
theorem dX9_cheapest_54 : decode cX9_cheapest 54 = .ok (.goto (-52), 3) := by decide +kernel
theorem dX9_cheapest_57 : decode cX9_cheapest 57 = .ok (.iconst 1, 1) := by decide +kernel
theorem dX9_cheapest_58 : decode cX9_cheapest 58 = .ok (.istore_n 1, 1) := by decide +kernel
theorem dX9_cheapest_59 : decode cX9_cheapest 59 = .ok (.iload_n 1, 1) := by decide +kernel
theorem dX9_cheapest_60 : decode cX9_cheapest 60 = .ok (.ifCond .eq 208, 3) := by decide +kernel
theorem dX9_cheapest_63 : decode cX9_cheapest 63 = .ok (.iconst 0, 1) := by decide +kernel
theorem dX9_cheapest_64 : decode cX9_cheapest 64 = .ok (.istore_n 1, 1) := by decide +kernel
theorem dX9_cheapest_65 : decode cX9_cheapest 65 = .ok (.iconst 0, 1) := by decide +kernel
theorem dX9_cheapest_66 : decode cX9_cheapest 66 = .ok (.istore_n 2, 1) := by decide +kernel
theorem dX9_cheapest_67 : decode cX9_cheapest 67 = .ok (.iload_n 2, 1) := by decide +kernel
theorem dX9_cheapest_68 : decode cX9_cheapest 68 = .ok (.bipush 12, 2) := by decide +kernel
theorem dX9_cheapest_70 : decode cX9_cheapest 70 = .ok (.if_icmp .ge 195, 3) := by decide +kernel
theorem dX9_cheapest_73 : decode cX9_cheapest 73 = .ok (.iconst 0, 1) := by decide +kernel
theorem dX9_cheapest_74 : decode cX9_cheapest 74 = .ok (.istore_n 3, 1) := by decide +kernel
theorem dX9_cheapest_75 : decode cX9_cheapest 75 = .ok (.iload_n 3, 1) := by decide +kernel
theorem dX9_cheapest_76 : decode cX9_cheapest 76 = .ok (.bipush 12, 2) := by decide +kernel
theorem dX9_cheapest_78 : decode cX9_cheapest 78 = .ok (.if_icmp .ge 181, 3) := by decide +kernel
theorem dX9_cheapest_81 : decode cX9_cheapest 81 = .ok (.aload_n 0, 1) := by decide +kernel
theorem dX9_cheapest_82 : decode cX9_cheapest 82 = .ok (.getfield 99, 3) := by decide +kernel
theorem dX9_cheapest_85 : decode cX9_cheapest 85 = .ok (.iload_n 2, 1) := by decide +kernel
theorem dX9_cheapest_86 : decode cX9_cheapest 86 = .ok (.iaload, 1) := by decide +kernel
theorem dX9_cheapest_87 : decode cX9_cheapest 87 = .ok (.ldc 194, 2) := by decide +kernel
theorem dX9_cheapest_89 : decode cX9_cheapest 89 = .ok (.if_icmp .ge 79, 3) := by decide +kernel
theorem dX9_cheapest_92 : decode cX9_cheapest 92 = .ok (.aload_n 0, 1) := by decide +kernel
theorem dX9_cheapest_93 : decode cX9_cheapest 93 = .ok (.getfield 90, 3) := by decide +kernel
theorem dX9_cheapest_96 : decode cX9_cheapest 96 = .ok (.bipush 12, 2) := by decide +kernel
theorem dX9_cheapest_98 : decode cX9_cheapest 98 = .ok (.iload_n 2, 1) := by decide +kernel
theorem dX9_cheapest_99 : decode cX9_cheapest 99 = .ok (.imul, 1) := by decide +kernel
theorem dX9_cheapest_100 : decode cX9_cheapest 100 = .ok (.iload_n 3, 1) := by decide +kernel
theorem dX9_cheapest_101 : decode cX9_cheapest 101 = .ok (.iadd, 1) := by decide +kernel
theorem dX9_cheapest_102 : decode cX9_cheapest 102 = .ok (.iaload, 1) := by decide +kernel
theorem dX9_cheapest_103 : decode cX9_cheapest 103 = .ok (.ldc 194, 2) := by decide +kernel
theorem dX9_cheapest_105 : decode cX9_cheapest 105 = .ok (.if_icmp .ge 63, 3) := by decide +kernel
theorem dX9_cheapest_108 : decode cX9_cheapest 108 = .ok (.aload_n 0, 1) := by decide +kernel
theorem dX9_cheapest_109 : decode cX9_cheapest 109 = .ok (.getfield 99, 3) := by decide +kernel
theorem dX9_cheapest_112 : decode cX9_cheapest 112 = .ok (.iload_n 2, 1) := by decide +kernel
theorem dX9_cheapest_113 : decode cX9_cheapest 113 = .ok (.iaload, 1) := by decide +kernel
theorem dX9_cheapest_114 : decode cX9_cheapest 114 = .ok (.aload_n 0, 1) := by decide +kernel
theorem dX9_cheapest_115 : decode cX9_cheapest 115 = .ok (.getfield 90, 3) := by decide +kernel
theorem dX9_cheapest_118 : decode cX9_cheapest 118 = .ok (.bipush 12, 2) := by decide +kernel
theorem dX9_cheapest_120 : decode cX9_cheapest 120 = .ok (.iload_n 2, 1) := by decide +kernel
theorem dX9_cheapest_121 : decode cX9_cheapest 121 = .ok (.imul, 1) := by decide +kernel
theorem dX9_cheapest_122 : decode cX9_cheapest 122 = .ok (.iload_n 3, 1) := by decide +kernel
theorem dX9_cheapest_123 : decode cX9_cheapest 123 = .ok (.iadd, 1) := by decide +kernel
theorem dX9_cheapest_124 : decode cX9_cheapest 124 = .ok (.iaload, 1) := by decide +kernel
theorem dX9_cheapest_125 : decode cX9_cheapest 125 = .ok (.iadd, 1) := by decide +kernel
theorem dX9_cheapest_126 : decode cX9_cheapest 126 = .ok (.aload_n 0, 1) := by decide +kernel
theorem dX9_cheapest_127 : decode cX9_cheapest 127 = .ok (.getfield 102, 3) := by decide +kernel
theorem dX9_cheapest_130 : decode cX9_cheapest 130 = .ok (.iload_n 3, 1) := by decide +kernel
theorem dX9_cheapest_131 : decode cX9_cheapest 131 = .ok (.iaload, 1) := by decide +kernel
theorem dX9_cheapest_132 : decode cX9_cheapest 132 = .ok (.if_icmp .ge 36, 3) := by decide +kernel
theorem dX9_cheapest_135 : decode cX9_cheapest 135 = .ok (.aload_n 0, 1) := by decide +kernel
theorem dX9_cheapest_136 : decode cX9_cheapest 136 = .ok (.getfield 102, 3) := by decide +kernel
theorem dX9_cheapest_139 : decode cX9_cheapest 139 = .ok (.iload_n 3, 1) := by decide +kernel
theorem dX9_cheapest_140 : decode cX9_cheapest 140 = .ok (.aload_n 0, 1) := by decide +kernel
theorem dX9_cheapest_141 : decode cX9_cheapest 141 = .ok (.getfield 99, 3) := by decide +kernel
theorem dX9_cheapest_144 : decode cX9_cheapest 144 = .ok (.iload_n 2, 1) := by decide +kernel
theorem dX9_cheapest_145 : decode cX9_cheapest 145 = .ok (.iaload, 1) := by decide +kernel
theorem dX9_cheapest_146 : decode cX9_cheapest 146 = .ok (.aload_n 0, 1) := by decide +kernel
theorem dX9_cheapest_147 : decode cX9_cheapest 147 = .ok (.getfield 90, 3) := by decide +kernel
theorem dX9_cheapest_150 : decode cX9_cheapest 150 = .ok (.bipush 12, 2) := by decide +kernel
theorem dX9_cheapest_152 : decode cX9_cheapest 152 = .ok (.iload_n 2, 1) := by decide +kernel
theorem dX9_cheapest_153 : decode cX9_cheapest 153 = .ok (.imul, 1) := by decide +kernel
theorem dX9_cheapest_154 : decode cX9_cheapest 154 = .ok (.iload_n 3, 1) := by decide +kernel
theorem dX9_cheapest_155 : decode cX9_cheapest 155 = .ok (.iadd, 1) := by decide +kernel
theorem dX9_cheapest_156 : decode cX9_cheapest 156 = .ok (.iaload, 1) := by decide +kernel
theorem dX9_cheapest_157 : decode cX9_cheapest 157 = .ok (.iadd, 1) := by decide +kernel
theorem dX9_cheapest_158 : decode cX9_cheapest 158 = .ok (.iastore, 1) := by decide +kernel
theorem dX9_cheapest_159 : decode cX9_cheapest 159 = .ok (.aload_n 0, 1) := by decide +kernel
theorem dX9_cheapest_160 : decode cX9_cheapest 160 = .ok (.getfield 108, 3) := by decide +kernel
theorem dX9_cheapest_163 : decode cX9_cheapest 163 = .ok (.iload_n 3, 1) := by decide +kernel
theorem dX9_cheapest_164 : decode cX9_cheapest 164 = .ok (.iload_n 2, 1) := by decide +kernel
theorem dX9_cheapest_165 : decode cX9_cheapest 165 = .ok (.iastore, 1) := by decide +kernel
theorem dX9_cheapest_166 : decode cX9_cheapest 166 = .ok (.iconst 1, 1) := by decide +kernel
theorem dX9_cheapest_167 : decode cX9_cheapest 167 = .ok (.istore_n 1, 1) := by decide +kernel
theorem dX9_cheapest_168 : decode cX9_cheapest 168 = .ok (.aload_n 0, 1) := by decide +kernel
theorem dX9_cheapest_169 : decode cX9_cheapest 169 = .ok (.getfield 87, 3) := by decide +kernel
theorem dX9_cheapest_172 : decode cX9_cheapest 172 = .ok (.bipush 12, 2) := by decide +kernel
theorem dX9_cheapest_174 : decode cX9_cheapest 174 = .ok (.iload_n 2, 1) := by decide +kernel
theorem dX9_cheapest_175 : decode cX9_cheapest 175 = .ok (.imul, 1) := by decide +kernel
theorem dX9_cheapest_176 : decode cX9_cheapest 176 = .ok (.iload_n 3, 1) := by decide +kernel
theorem dX9_cheapest_177 : decode cX9_cheapest 177 = .ok (.iadd, 1) := by decide +kernel
theorem dX9_cheapest_178 : decode cX9_cheapest 178 = .ok (.iaload, 1) := by decide +kernel
theorem dX9_cheapest_179 : decode cX9_cheapest 179 = .ok (.ifCond .le 74, 3) := by decide +kernel
theorem dX9_cheapest_182 : decode cX9_cheapest 182 = .ok (.aload_n 0, 1) := by decide +kernel
theorem dX9_cheapest_183 : decode cX9_cheapest 183 = .ok (.getfield 102, 3) := by decide +kernel
theorem dX9_cheapest_186 : decode cX9_cheapest 186 = .ok (.iload_n 3, 1) := by decide +kernel
theorem dX9_cheapest_187 : decode cX9_cheapest 187 = .ok (.iaload, 1) := by decide +kernel
theorem dX9_cheapest_188 : decode cX9_cheapest 188 = .ok (.ldc 194, 2) := by decide +kernel
theorem dX9_cheapest_190 : decode cX9_cheapest 190 = .ok (.if_icmp .ge 63, 3) := by decide +kernel
theorem dX9_cheapest_193 : decode cX9_cheapest 193 = .ok (.aload_n 0, 1) := by decide +kernel
theorem dX9_cheapest_194 : decode cX9_cheapest 194 = .ok (.getfield 102, 3) := by decide +kernel
theorem dX9_cheapest_197 : decode cX9_cheapest 197 = .ok (.iload_n 3, 1) := by decide +kernel
theorem dX9_cheapest_198 : decode cX9_cheapest 198 = .ok (.iaload, 1) := by decide +kernel
theorem dX9_cheapest_199 : decode cX9_cheapest 199 = .ok (.aload_n 0, 1) := by decide +kernel
theorem dX9_cheapest_200 : decode cX9_cheapest 200 = .ok (.getfield 90, 3) := by decide +kernel
theorem dX9_cheapest_203 : decode cX9_cheapest 203 = .ok (.bipush 12, 2) := by decide +kernel
theorem dX9_cheapest_205 : decode cX9_cheapest 205 = .ok (.iload_n 2, 1) := by decide +kernel
theorem dX9_cheapest_206 : decode cX9_cheapest 206 = .ok (.imul, 1) := by decide +kernel
theorem dX9_cheapest_207 : decode cX9_cheapest 207 = .ok (.iload_n 3, 1) := by decide +kernel
theorem dX9_cheapest_208 : decode cX9_cheapest 208 = .ok (.iadd, 1) := by decide +kernel
theorem dX9_cheapest_209 : decode cX9_cheapest 209 = .ok (.iaload, 1) := by decide +kernel
theorem dX9_cheapest_210 : decode cX9_cheapest 210 = .ok (.isub, 1) := by decide +kernel
theorem dX9_cheapest_211 : decode cX9_cheapest 211 = .ok (.aload_n 0, 1) := by decide +kernel
theorem dX9_cheapest_212 : decode cX9_cheapest 212 = .ok (.getfield 99, 3) := by decide +kernel
theorem dX9_cheapest_215 : decode cX9_cheapest 215 = .ok (.iload_n 2, 1) := by decide +kernel
theorem dX9_cheapest_216 : decode cX9_cheapest 216 = .ok (.iaload, 1) := by decide +kernel
theorem dX9_cheapest_217 : decode cX9_cheapest 217 = .ok (.if_icmp .ge 36, 3) := by decide +kernel
theorem dX9_cheapest_220 : decode cX9_cheapest 220 = .ok (.aload_n 0, 1) := by decide +kernel
theorem dX9_cheapest_221 : decode cX9_cheapest 221 = .ok (.getfield 99, 3) := by decide +kernel
theorem dX9_cheapest_224 : decode cX9_cheapest 224 = .ok (.iload_n 2, 1) := by decide +kernel
theorem dX9_cheapest_225 : decode cX9_cheapest 225 = .ok (.aload_n 0, 1) := by decide +kernel
theorem dX9_cheapest_226 : decode cX9_cheapest 226 = .ok (.getfield 102, 3) := by decide +kernel
theorem dX9_cheapest_229 : decode cX9_cheapest 229 = .ok (.iload_n 3, 1) := by decide +kernel
theorem dX9_cheapest_230 : decode cX9_cheapest 230 = .ok (.iaload, 1) := by decide +kernel
theorem dX9_cheapest_231 : decode cX9_cheapest 231 = .ok (.aload_n 0, 1) := by decide +kernel
theorem dX9_cheapest_232 : decode cX9_cheapest 232 = .ok (.getfield 90, 3) := by decide +kernel
theorem dX9_cheapest_235 : decode cX9_cheapest 235 = .ok (.bipush 12, 2) := by decide +kernel
theorem dX9_cheapest_237 : decode cX9_cheapest 237 = .ok (.iload_n 2, 1) := by decide +kernel
theorem dX9_cheapest_238 : decode cX9_cheapest 238 = .ok (.imul, 1) := by decide +kernel
theorem dX9_cheapest_239 : decode cX9_cheapest 239 = .ok (.iload_n 3, 1) := by decide +kernel
theorem dX9_cheapest_240 : decode cX9_cheapest 240 = .ok (.iadd, 1) := by decide +kernel
theorem dX9_cheapest_241 : decode cX9_cheapest 241 = .ok (.iaload, 1) := by decide +kernel
theorem dX9_cheapest_242 : decode cX9_cheapest 242 = .ok (.isub, 1) := by decide +kernel
theorem dX9_cheapest_243 : decode cX9_cheapest 243 = .ok (.iastore, 1) := by decide +kernel
theorem dX9_cheapest_244 : decode cX9_cheapest 244 = .ok (.aload_n 0, 1) := by decide +kernel
theorem dX9_cheapest_245 : decode cX9_cheapest 245 = .ok (.getfield 105, 3) := by decide +kernel
theorem dX9_cheapest_248 : decode cX9_cheapest 248 = .ok (.iload_n 2, 1) := by decide +kernel
theorem dX9_cheapest_249 : decode cX9_cheapest 249 = .ok (.iload_n 3, 1) := by decide +kernel
theorem dX9_cheapest_250 : decode cX9_cheapest 250 = .ok (.iastore, 1) := by decide +kernel
theorem dX9_cheapest_251 : decode cX9_cheapest 251 = .ok (.iconst 1, 1) := by decide +kernel
theorem dX9_cheapest_252 : decode cX9_cheapest 252 = .ok (.istore_n 1, 1) := by decide +kernel
theorem dX9_cheapest_253 : decode cX9_cheapest 253 = .ok (.iinc 3 1, 3) := by decide +kernel
theorem dX9_cheapest_256 : decode cX9_cheapest 256 = .ok (.goto (-181), 3) := by decide +kernel
theorem dX9_cheapest_259 : decode cX9_cheapest 259 = .ok (.iinc 2 1, 3) := by decide +kernel
theorem dX9_cheapest_262 : decode cX9_cheapest 262 = .ok (.goto (-195), 3) := by decide +kernel
theorem dX9_cheapest_265 : decode cX9_cheapest 265 = .ok (.goto (-206), 3) := by decide +kernel
theorem dX9_cheapest_268 : decode cX9_cheapest 268 = .ok (.return_, 1) := by decide +kernel
theorem dX9_change_0 : decode cX9_change 0 = .ok (.aload_n 0, 1) := by decide +kernel
theorem dX9_change_1 : decode cX9_change 1 = .ok (.getfield 96, 3) := by decide +kernel
theorem dX9_change_4 : decode cX9_change 4 = .ok (.iload_n 1, 1) := by decide +kernel
theorem dX9_change_5 : decode cX9_change 5 = .ok (.dup2, 1) := by decide +kernel
theorem dX9_change_6 : decode cX9_change 6 = .ok (.iaload, 1) := by decide +kernel
theorem dX9_change_7 : decode cX9_change 7 = .ok (.iconst 1, 1) := by decide +kernel
theorem dX9_change_8 : decode cX9_change 8 = .ok (.isub, 1) := by decide +kernel
theorem dX9_change_9 : decode cX9_change 9 = .ok (.iastore, 1) := by decide +kernel
theorem dX9_change_10 : decode cX9_change 10 = .ok (.iload_n 1, 1) := by decide +kernel
theorem dX9_change_11 : decode cX9_change 11 = .ok (.istore_n 2, 1) := by decide +kernel
theorem dX9_change_12 : decode cX9_change 12 = .ok (.aload_n 0, 1) := by decide +kernel
theorem dX9_change_13 : decode cX9_change 13 = .ok (.getfield 108, 3) := by decide +kernel
theorem dX9_change_16 : decode cX9_change 16 = .ok (.iload_n 2, 1) := by decide +kernel
theorem dX9_change_17 : decode cX9_change 17 = .ok (.iaload, 1) := by decide +kernel
theorem dX9_change_18 : decode cX9_change 18 = .ok (.istore_n 3, 1) := by decide +kernel
theorem dX9_change_19 : decode cX9_change 19 = .ok (.aload_n 0, 1) := by decide +kernel
theorem dX9_change_20 : decode cX9_change 20 = .ok (.getfield 87, 3) := by decide +kernel
theorem dX9_change_23 : decode cX9_change 23 = .ok (.bipush 12, 2) := by decide +kernel
theorem dX9_change_25 : decode cX9_change 25 = .ok (.iload_n 3, 1) := by decide +kernel
theorem dX9_change_26 : decode cX9_change 26 = .ok (.imul, 1) := by decide +kernel
theorem dX9_change_27 : decode cX9_change 27 = .ok (.iload_n 2, 1) := by decide +kernel
theorem dX9_change_28 : decode cX9_change 28 = .ok (.iadd, 1) := by decide +kernel
theorem dX9_change_29 : decode cX9_change 29 = .ok (.dup2, 1) := by decide +kernel
theorem dX9_change_30 : decode cX9_change 30 = .ok (.iaload, 1) := by decide +kernel
theorem dX9_change_31 : decode cX9_change 31 = .ok (.iconst 1, 1) := by decide +kernel
theorem dX9_change_32 : decode cX9_change 32 = .ok (.iadd, 1) := by decide +kernel
theorem dX9_change_33 : decode cX9_change 33 = .ok (.iastore, 1) := by decide +kernel
theorem dX9_change_34 : decode cX9_change 34 = .ok (.aload_n 0, 1) := by decide +kernel
theorem dX9_change_35 : decode cX9_change 35 = .ok (.getfield 105, 3) := by decide +kernel
theorem dX9_change_38 : decode cX9_change 38 = .ok (.iload_n 3, 1) := by decide +kernel
theorem dX9_change_39 : decode cX9_change 39 = .ok (.iaload, 1) := by decide +kernel
theorem dX9_change_40 : decode cX9_change 40 = .ok (.ifCond .ge 14, 3) := by decide +kernel
theorem dX9_change_43 : decode cX9_change 43 = .ok (.aload_n 0, 1) := by decide +kernel
theorem dX9_change_44 : decode cX9_change 44 = .ok (.getfield 93, 3) := by decide +kernel
theorem dX9_change_47 : decode cX9_change 47 = .ok (.iload_n 3, 1) := by decide +kernel
theorem dX9_change_48 : decode cX9_change 48 = .ok (.dup2, 1) := by decide +kernel
theorem dX9_change_49 : decode cX9_change 49 = .ok (.iaload, 1) := by decide +kernel
theorem dX9_change_50 : decode cX9_change 50 = .ok (.iconst 1, 1) := by decide +kernel
theorem dX9_change_51 : decode cX9_change 51 = .ok (.isub, 1) := by decide +kernel
theorem dX9_change_52 : decode cX9_change 52 = .ok (.iastore, 1) := by decide +kernel
theorem dX9_change_53 : decode cX9_change 53 = .ok (.return_, 1) := by decide +kernel
theorem dX9_change_54 : decode cX9_change 54 = .ok (.aload_n 0, 1) := by decide +kernel
theorem dX9_change_55 : decode cX9_change 55 = .ok (.getfield 105, 3) := by decide +kernel
theorem dX9_change_58 : decode cX9_change 58 = .ok (.iload_n 3, 1) := by decide +kernel
theorem dX9_change_59 : decode cX9_change 59 = .ok (.iaload, 1) := by decide +kernel
theorem dX9_change_60 : decode cX9_change 60 = .ok (.istore_n 2, 1) := by decide +kernel
theorem dX9_change_61 : decode cX9_change 61 = .ok (.aload_n 0, 1) := by decide +kernel
theorem dX9_change_62 : decode cX9_change 62 = .ok (.getfield 87, 3) := by decide +kernel
theorem dX9_change_65 : decode cX9_change 65 = .ok (.bipush 12, 2) := by decide +kernel
theorem dX9_change_67 : decode cX9_change 67 = .ok (.iload_n 3, 1) := by decide +kernel
theorem dX9_change_68 : decode cX9_change 68 = .ok (.imul, 1) := by decide +kernel
theorem dX9_change_69 : decode cX9_change 69 = .ok (.iload_n 2, 1) := by decide +kernel
theorem dX9_change_70 : decode cX9_change 70 = .ok (.iadd, 1) := by decide +kernel
theorem dX9_change_71 : decode cX9_change 71 = .ok (.dup2, 1) := by decide +kernel
theorem dX9_change_72 : decode cX9_change 72 = .ok (.iaload, 1) := by decide +kernel
theorem dX9_change_73 : decode cX9_change 73 = .ok (.iconst 1, 1) := by decide +kernel
theorem dX9_change_74 : decode cX9_change 74 = .ok (.isub, 1) := by decide +kernel
theorem dX9_change_75 : decode cX9_change 75 = .ok (.iastore, 1) := by decide +kernel
theorem dX9_change_76 : decode cX9_change 76 = .ok (.goto (-64), 3) := by decide +kernel
set_option maxRecDepth 20000 in
theorem ggX9_count_X9_isOnWay : GoodIn wsX9_count wsX9_isOnWay := goodIn_ca (lq_goor _ [11, 12] rfl (by decide +kernel)) (goodIn_sub (fun _ h => List.mem_cons_of_mem _ (List.mem_append_right _ h)) gw_wsX90)
set_option maxRecDepth 20000 in
theorem gX9_count_X9_isOnWay : GoodIn wsX9_count (wsV RX9 214 RX9 yX9_isOnWay wsX9_isOnWay) := goodIn_app (lq_goor _ [7, 8, 9, 10] rfl (by decide +kernel)) ggX9_count_X9_isOnWay
theorem dX9_count_0 : decode cX9_count 0 = .ok (.aload_n 0, 1) := by decide +kernel
theorem dX9_count_1 : decode cX9_count 1 = .ok (.iconst 0, 1) := by decide +kernel
theorem dX9_count_2 : decode cX9_count 2 = .ok (.putfield 111, 3) := by decide +kernel
theorem dX9_count_5 : decode cX9_count 5 = .ok (.iload_n 1, 1) := by decide +kernel
theorem dX9_count_6 : decode cX9_count 6 = .ok (.tableswitch 99 0 5 #[38, 43, 48, 53, 58, 94], 38) := by decide +kernel
theorem dX9_count_44 : decode cX9_count 44 = .ok (.aload_n 0, 1) := by decide +kernel
theorem dX9_count_45 : decode cX9_count 45 = .ok (.getfield 217, 3) := by decide +kernel
theorem dX9_count_48 : decode cX9_count 48 = .ok (.ireturn, 1) := by decide +kernel
theorem dX9_count_49 : decode cX9_count 49 = .ok (.aload_n 0, 1) := by decide +kernel
theorem dX9_count_50 : decode cX9_count 50 = .ok (.getfield 202, 3) := by decide +kernel
theorem dX9_count_53 : decode cX9_count 53 = .ok (.ireturn, 1) := by decide +kernel
theorem dX9_count_54 : decode cX9_count 54 = .ok (.aload_n 0, 1) := by decide +kernel
theorem dX9_count_55 : decode cX9_count 55 = .ok (.getfield 205, 3) := by decide +kernel
theorem dX9_count_58 : decode cX9_count 58 = .ok (.ireturn, 1) := by decide +kernel
theorem dX9_count_59 : decode cX9_count 59 = .ok (.aload_n 0, 1) := by decide +kernel
theorem dX9_count_60 : decode cX9_count 60 = .ok (.getfield 208, 3) := by decide +kernel
theorem dX9_count_63 : decode cX9_count 63 = .ok (.ireturn, 1) := by decide +kernel
theorem dX9_count_64 : decode cX9_count 64 = .ok (.iconst 0, 1) := by decide +kernel
theorem dX9_count_65 : decode cX9_count 65 = .ok (.istore_n 2, 1) := by decide +kernel
theorem dX9_count_66 : decode cX9_count 66 = .ok (.iconst 0, 1) := by decide +kernel
theorem dX9_count_67 : decode cX9_count 67 = .ok (.istore_n 3, 1) := by decide +kernel
theorem dX9_count_68 : decode cX9_count 68 = .ok (.iload_n 3, 1) := by decide +kernel
theorem dX9_count_69 : decode cX9_count 69 = .ok (.aload_n 0, 1) := by decide +kernel
theorem dX9_count_70 : decode cX9_count 70 = .ok (.getfield 208, 3) := by decide +kernel
theorem dX9_count_73 : decode cX9_count 73 = .ok (.if_icmp .ge 25, 3) := by decide +kernel
theorem dX9_count_76 : decode cX9_count 76 = .ok (.iload_n 2, 1) := by decide +kernel
theorem dX9_count_77 : decode cX9_count 77 = .ok (.aload_n 0, 1) := by decide +kernel
theorem dX9_count_78 : decode cX9_count 78 = .ok (.iload_n 3, 1) := by decide +kernel
theorem dX9_count_79 : decode cX9_count 79 = .ok (.invokevirtual 214, 3) := by decide +kernel
theorem dX9_count_82 : decode cX9_count 82 = .ok (.ifCond .eq 7, 3) := by decide +kernel
theorem dX9_count_85 : decode cX9_count 85 = .ok (.iconst 1, 1) := by decide +kernel
theorem dX9_count_86 : decode cX9_count 86 = .ok (.goto 4, 3) := by decide +kernel
theorem dX9_count_89 : decode cX9_count 89 = .ok (.iconst 0, 1) := by decide +kernel
theorem dX9_count_90 : decode cX9_count 90 = .ok (.iadd, 1) := by decide +kernel
theorem dX9_count_91 : decode cX9_count 91 = .ok (.istore_n 2, 1) := by decide +kernel
theorem dX9_count_92 : decode cX9_count 92 = .ok (.iinc 3 1, 3) := by decide +kernel
theorem dX9_count_95 : decode cX9_count 95 = .ok (.goto (-27), 3) := by decide +kernel
theorem dX9_count_98 : decode cX9_count 98 = .ok (.iload_n 2, 1) := by decide +kernel
theorem dX9_count_99 : decode cX9_count 99 = .ok (.ireturn, 1) := by decide +kernel
theorem dX9_count_100 : decode cX9_count 100 = .ok (.aload_n 0, 1) := by decide +kernel
theorem dX9_count_101 : decode cX9_count 101 = .ok (.getfield 115, 3) := by decide +kernel
theorem dX9_count_104 : decode cX9_count 104 = .ok (.ireturn, 1) := by decide +kernel
theorem dX9_count_105 : decode cX9_count 105 = .ok (.iconst (-1), 1) := by decide +kernel
theorem dX9_count_106 : decode cX9_count 106 = .ok (.ireturn, 1) := by decide +kernel
theorem dJ9_max_7cf53_0 : decode cJ9_max_7cf53 0 = .ok (.iload_n 0, 1) := by decide +kernel
theorem dJ9_max_7cf53_1 : decode cJ9_max_7cf53 1 = .ok (.iload_n 1, 1) := by decide +kernel
theorem dJ9_max_7cf53_2 : decode cJ9_max_7cf53 2 = .ok (.if_icmp .lt 7, 3) := by decide +kernel
theorem dJ9_max_7cf53_5 : decode cJ9_max_7cf53 5 = .ok (.iload_n 0, 1) := by decide +kernel
theorem dJ9_max_7cf53_6 : decode cJ9_max_7cf53 6 = .ok (.goto 4, 3) := by decide +kernel
theorem dJ9_max_7cf53_9 : decode cJ9_max_7cf53 9 = .ok (.iload_n 1, 1) := by decide +kernel
theorem dJ9_max_7cf53_10 : decode cJ9_max_7cf53 10 = .ok (.ireturn, 1) := by decide +kernel
theorem dJ9_min_7cf53_0 : decode cJ9_min_7cf53 0 = .ok (.iload_n 0, 1) := by decide +kernel
theorem dJ9_min_7cf53_1 : decode cJ9_min_7cf53 1 = .ok (.iload_n 1, 1) := by decide +kernel
theorem dJ9_min_7cf53_2 : decode cJ9_min_7cf53 2 = .ok (.if_icmp .gt 7, 3) := by decide +kernel
theorem dJ9_min_7cf53_5 : decode cJ9_min_7cf53 5 = .ok (.iload_n 0, 1) := by decide +kernel
theorem dJ9_min_7cf53_6 : decode cJ9_min_7cf53 6 = .ok (.goto 4, 3) := by decide +kernel
theorem dJ9_min_7cf53_9 : decode cJ9_min_7cf53 9 = .ok (.iload_n 1, 1) := by decide +kernel
theorem dJ9_min_7cf53_10 : decode cJ9_min_7cf53 10 = .ok (.ireturn, 1) := by decide +kernel
set_option maxRecDepth 20000 in
theorem ggJ0_length_8abf5_J0_coder_7d493 : GoodIn wsJ0_length_8abf5 wsJ0_coder_7d493 := lq_goor _ [6, 7, 8] rfl (by decide +kernel)
set_option maxRecDepth 20000 in
theorem gJ0_length_8abf5_J0_coder_7d493 : GoodIn wsJ0_length_8abf5 (wsV RJ0 335 RJ0 yJ0_coder_7d493 wsJ0_coder_7d493) := goodIn_app (lq_goor _ [2, 3, 4, 5] rfl (by decide +kernel)) ggJ0_length_8abf5_J0_coder_7d493
theorem dJ0_length_8abf5_0 : decode cJ0_length_8abf5 0 = .ok (.aload_n 0, 1) := by decide +kernel
theorem dJ0_length_8abf5_1 : decode cJ0_length_8abf5 1 = .ok (.getfield 9, 3) := by decide +kernel
theorem dJ0_length_8abf5_4 : decode cJ0_length_8abf5 4 = .ok (.arraylength, 1) := by decide +kernel
theorem dJ0_length_8abf5_5 : decode cJ0_length_8abf5 5 = .ok (.aload_n 0, 1) := by decide +kernel
theorem dJ0_length_8abf5_6 : decode cJ0_length_8abf5 6 = .ok (.invokevirtual 335, 3) := by decide +kernel
theorem dJ0_length_8abf5_9 : decode cJ0_length_8abf5 9 = .ok (.ishr, 1) := by decide +kernel
theorem dJ0_length_8abf5_10 : decode cJ0_length_8abf5 10 = .ok (.ireturn, 1) := by decide +kernel
set_option maxRecDepth 20000 in
theorem ggJ0_charAt_5068e_J0_isLatin1_aae02 : GoodIn wsJ0_charAt_5068e wsJ0_isLatin1_aae02 := lq_goor _ [6, 7, 8] rfl (by decide +kernel)
set_option maxRecDepth 20000 in
theorem gJ0_charAt_5068e_J0_isLatin1_aae02 : GoodIn wsJ0_charAt_5068e (wsV RJ0 492 RJ0 yJ0_isLatin1_aae02 wsJ0_isLatin1_aae02) := goodIn_app (lq_goor _ [2, 3, 4, 5] rfl (by decide +kernel)) ggJ0_charAt_5068e_J0_isLatin1_aae02
set_option maxRecDepth 20000 in
theorem ggJ0_charAt_5068e_J1_charAt_3b067 : GoodIn wsJ0_charAt_5068e wsJ1_charAt_3b067 := lq_goor _ [12, 13, 14, 5, 15, 16, 17, 18, 19, 20] rfl (by decide +kernel)
set_option maxRecDepth 20000 in
theorem gJ0_charAt_5068e_J1_charAt_3b067 : GoodIn wsJ0_charAt_5068e (va_wsS RJ0 495 yJ1_charAt_3b067 wsJ1_charAt_3b067) := goodIn_app (lq_goor _ [9, 10, 11] rfl (by decide +kernel)) ggJ0_charAt_5068e_J1_charAt_3b067
set_option maxRecDepth 20000 in
theorem ggJ0_charAt_5068e_J2_charAt_3b067 : GoodIn wsJ0_charAt_5068e wsJ2_charAt_3b067 := lq_goor _ [24, 25, 26, 23, 27, 28, 29, 30, 31, 14, 5, 15, 16, 17, 18, 19, 20, 32, 33, 34, 35, 36, 37] rfl (by decide +kernel)
set_option maxRecDepth 20000 in
theorem gJ0_charAt_5068e_J2_charAt_3b067 : GoodIn wsJ0_charAt_5068e (va_wsS RJ0 498 yJ2_charAt_3b067 wsJ2_charAt_3b067) := goodIn_app (lq_goor _ [21, 22, 23] rfl (by decide +kernel)) ggJ0_charAt_5068e_J2_charAt_3b067
theorem dJ0_charAt_5068e_0 : decode cJ0_charAt_5068e 0 = .ok (.aload_n 0, 1) := by decide +kernel
theorem dJ0_charAt_5068e_1 : decode cJ0_charAt_5068e 1 = .ok (.invokevirtual 492, 3) := by decide +kernel
theorem dJ0_charAt_5068e_4 : decode cJ0_charAt_5068e 4 = .ok (.ifCond .eq 12, 3) := by decide +kernel
theorem dJ0_charAt_5068e_7 : decode cJ0_charAt_5068e 7 = .ok (.aload_n 0, 1) := by decide +kernel
theorem dJ0_charAt_5068e_8 : decode cJ0_charAt_5068e 8 = .ok (.getfield 9, 3) := by decide +kernel
theorem dJ0_charAt_5068e_11 : decode cJ0_charAt_5068e 11 = .ok (.iload_n 1, 1) := by decide +kernel
theorem dJ0_charAt_5068e_12 : decode cJ0_charAt_5068e 12 = .ok (.invokestatic 495, 3) := by decide +kernel
theorem dJ0_charAt_5068e_15 : decode cJ0_charAt_5068e 15 = .ok (.ireturn, 1) := by decide +kernel
theorem dJ0_charAt_5068e_16 : decode cJ0_charAt_5068e 16 = .ok (.aload_n 0, 1) := by decide +kernel
theorem dJ0_charAt_5068e_17 : decode cJ0_charAt_5068e 17 = .ok (.getfield 9, 3) := by decide +kernel
theorem dJ0_charAt_5068e_20 : decode cJ0_charAt_5068e 20 = .ok (.iload_n 1, 1) := by decide +kernel
theorem dJ0_charAt_5068e_21 : decode cJ0_charAt_5068e 21 = .ok (.invokestatic 498, 3) := by decide +kernel
theorem dJ0_charAt_5068e_24 : decode cJ0_charAt_5068e 24 = .ok (.ireturn, 1) := by decide +kernel
theorem dJ0_coder_7d493_0 : decode cJ0_coder_7d493 0 = .ok (.getstatic 38, 3) := by decide +kernel
theorem dJ0_coder_7d493_3 : decode cJ0_coder_7d493 3 = .ok (.ifCond .eq 10, 3) := by decide +kernel
theorem dJ0_coder_7d493_6 : decode cJ0_coder_7d493 6 = .ok (.aload_n 0, 1) := by decide +kernel
theorem dJ0_coder_7d493_7 : decode cJ0_coder_7d493 7 = .ok (.getfield 15, 3) := by decide +kernel
theorem dJ0_coder_7d493_10 : decode cJ0_coder_7d493 10 = .ok (.goto 4, 3) := by decide +kernel
theorem dJ0_coder_7d493_13 : decode cJ0_coder_7d493 13 = .ok (.iconst 1, 1) := by decide +kernel
theorem dJ0_coder_7d493_14 : decode cJ0_coder_7d493 14 = .ok (.ireturn, 1) := by decide +kernel
theorem dJ0_isLatin1_aae02_0 : decode cJ0_isLatin1_aae02 0 = .ok (.getstatic 38, 3) := by decide +kernel
theorem dJ0_isLatin1_aae02_3 : decode cJ0_isLatin1_aae02 3 = .ok (.ifCond .eq 14, 3) := by decide +kernel
theorem dJ0_isLatin1_aae02_6 : decode cJ0_isLatin1_aae02 6 = .ok (.aload_n 0, 1) := by decide +kernel
theorem dJ0_isLatin1_aae02_7 : decode cJ0_isLatin1_aae02 7 = .ok (.getfield 15, 3) := by decide +kernel
theorem dJ0_isLatin1_aae02_10 : decode cJ0_isLatin1_aae02 10 = .ok (.ifCond .ne 7, 3) := by decide +kernel
theorem dJ0_isLatin1_aae02_13 : decode cJ0_isLatin1_aae02 13 = .ok (.iconst 1, 1) := by decide +kernel
theorem dJ0_isLatin1_aae02_14 : decode cJ0_isLatin1_aae02 14 = .ok (.goto 4, 3) := by decide +kernel
theorem dJ0_isLatin1_aae02_17 : decode cJ0_isLatin1_aae02 17 = .ok (.iconst 0, 1) := by decide +kernel
theorem dJ0_isLatin1_aae02_18 : decode cJ0_isLatin1_aae02 18 = .ok (.ireturn, 1) := by decide +kernel
set_option maxRecDepth 20000 in
theorem ggJ0_checkIndex_df160_J3_checkIndex_8e157 : GoodIn wsJ0_checkIndex_df160 wsJ3_checkIndex_8e157 := lq_goor _ [5] rfl (by decide +kernel)
set_option maxRecDepth 20000 in
theorem gJ0_checkIndex_df160_J3_checkIndex_8e157 : GoodIn wsJ0_checkIndex_df160 (va_wsS RJ0 1059 yJ3_checkIndex_8e157 wsJ3_checkIndex_8e157) := goodIn_app (lq_goor _ [2, 3, 4] rfl (by decide +kernel)) ggJ0_checkIndex_df160_J3_checkIndex_8e157
theorem dJ0_checkIndex_df160_0 : decode cJ0_checkIndex_df160 0 = .ok (.iload_n 0, 1) := by decide +kernel
theorem dJ0_checkIndex_df160_1 : decode cJ0_checkIndex_df160 1 = .ok (.iload_n 1, 1) := by decide +kernel
theorem dJ0_checkIndex_df160_2 : decode cJ0_checkIndex_df160 2 = .ok (.getstatic 1053, 3) := by decide +kernel
theorem dJ0_checkIndex_df160_5 : decode cJ0_checkIndex_df160 5 = .ok (.invokestatic 1059, 3) := by decide +kernel
theorem dJ0_checkIndex_df160_8 : decode cJ0_checkIndex_df160 8 = .ok (.pop, 1) := by decide +kernel
theorem dJ0_checkIndex_df160_9 : decode cJ0_checkIndex_df160 9 = .ok (.return_, 1) := by decide +kernel
set_option maxRecDepth 20000 in
theorem ggJ1_charAt_3b067_J0_checkIndex_df160 : GoodIn wsJ1_charAt_3b067 wsJ0_checkIndex_df160 := lq_goor _ [4, 5, 6, 7, 8, 9] rfl (by decide +kernel)
set_option maxRecDepth 20000 in
theorem gJ1_charAt_3b067_J0_checkIndex_df160 : GoodIn wsJ1_charAt_3b067 (va_wsS RJ1 9 yJ0_checkIndex_df160 wsJ0_checkIndex_df160) := goodIn_app (lq_goor _ [1, 2, 3] rfl (by decide +kernel)) ggJ1_charAt_3b067_J0_checkIndex_df160
theorem dJ1_charAt_3b067_0 : decode cJ1_charAt_3b067 0 = .ok (.iload_n 1, 1) := by decide +kernel
theorem dJ1_charAt_3b067_1 : decode cJ1_charAt_3b067 1 = .ok (.aload_n 0, 1) := by decide +kernel
theorem dJ1_charAt_3b067_2 : decode cJ1_charAt_3b067 2 = .ok (.arraylength, 1) := by decide +kernel
theorem dJ1_charAt_3b067_3 : decode cJ1_charAt_3b067 3 = .ok (.invokestatic 9, 3) := by decide +kernel
theorem dJ1_charAt_3b067_6 : decode cJ1_charAt_3b067 6 = .ok (.aload_n 0, 1) := by decide +kernel
theorem dJ1_charAt_3b067_7 : decode cJ1_charAt_3b067 7 = .ok (.iload_n 1, 1) := by decide +kernel
theorem dJ1_charAt_3b067_8 : decode cJ1_charAt_3b067 8 = .ok (.baload, 1) := by decide +kernel
theorem dJ1_charAt_3b067_9 : decode cJ1_charAt_3b067 9 = .ok (.sipush 255, 3) := by decide +kernel
theorem dJ1_charAt_3b067_12 : decode cJ1_charAt_3b067 12 = .ok (.iand, 1) := by decide +kernel
theorem dJ1_charAt_3b067_13 : decode cJ1_charAt_3b067 13 = .ok (.i2c, 1) := by decide +kernel
theorem dJ1_charAt_3b067_14 : decode cJ1_charAt_3b067 14 = .ok (.ireturn, 1) := by decide +kernel
set_option maxRecDepth 20000 in
theorem ggJ2_getChar_3b067_J2_length_9d52b : GoodIn wsJ2_getChar_3b067 wsJ2_length_9d52b := lq_goor _ [7] rfl (by decide +kernel)
set_option maxRecDepth 20000 in
theorem gJ2_getChar_3b067_J2_length_9d52b : GoodIn wsJ2_getChar_3b067 (va_wsS RJ2 48 yJ2_length_9d52b wsJ2_length_9d52b) := goodIn_app (lq_goor _ [4, 5, 6] rfl (by decide +kernel)) ggJ2_getChar_3b067_J2_length_9d52b
theorem dJ2_getChar_3b067_0 : decode cJ2_getChar_3b067 0 = .ok (.getstatic 44, 3) := by decide +kernel
theorem dJ2_getChar_3b067_3 : decode cJ2_getChar_3b067 3 = .ok (.ifCond .ne 25, 3) := by decide +kernel
theorem dJ2_getChar_3b067_6 : decode cJ2_getChar_3b067 6 = .ok (.iload_n 1, 1) := by decide +kernel
theorem dJ2_getChar_3b067_7 : decode cJ2_getChar_3b067 7 = .ok (.ifCond .lt 11, 3) := by decide +kernel
theorem dJ2_getChar_3b067_10 : decode cJ2_getChar_3b067 10 = .ok (.iload_n 1, 1) := by decide +kernel
theorem dJ2_getChar_3b067_11 : decode cJ2_getChar_3b067 11 = .ok (.aload_n 0, 1) := by decide +kernel
theorem dJ2_getChar_3b067_12 : decode cJ2_getChar_3b067 12 = .ok (.invokestatic 48, 3) := by decide +kernel
theorem dJ2_getChar_3b067_15 : decode cJ2_getChar_3b067 15 = .ok (.if_icmp .lt 13, 3) := by decide +kernel
theorem dJ2_getChar_3b067_18 : decode cJ2_getChar_3b067 18 = .ok (.new 52, 3) := by decide +kernel
theorem dJ2_getChar_3b067_21 : decode cJ2_getChar_3b067 21 = .ok (.dup, 1) := by decide +kernel
theorem dJ2_getChar_3b067_22 : decode cJ2_getChar_3b067 22 = .ok (.ldc 54, 2) := by decide +kernel
theorem dJ2_getChar_3b067_24 : decode cJ2_getChar_3b067 24 = .ok (.invokespecial 56, 3) := by decide +kernel
theorem dJ2_getChar_3b067_27 : decode cJ2_getChar_3b067 27 = .ok (.athrow, 1) := by decide +kernel
theorem dJ2_getChar_3b067_28 : decode cJ2_getChar_3b067 28 = .ok (.iload_n 1, 1) := by decide +kernel
theorem dJ2_getChar_3b067_29 : decode cJ2_getChar_3b067 29 = .ok (.iconst 1, 1) := by decide +kernel
theorem dJ2_getChar_3b067_30 : decode cJ2_getChar_3b067 30 = .ok (.ishl, 1) := by decide +kernel
theorem dJ2_getChar_3b067_31 : decode cJ2_getChar_3b067 31 = .ok (.istore_n 1, 1) := by decide +kernel
theorem dJ2_getChar_3b067_32 : decode cJ2_getChar_3b067 32 = .ok (.aload_n 0, 1) := by decide +kernel
theorem dJ2_getChar_3b067_33 : decode cJ2_getChar_3b067 33 = .ok (.iload_n 1, 1) := by decide +kernel
theorem dJ2_getChar_3b067_34 : decode cJ2_getChar_3b067 34 = .ok (.iinc 1 1, 3) := by decide +kernel
theorem dJ2_getChar_3b067_37 : decode cJ2_getChar_3b067 37 = .ok (.baload, 1) := by decide +kernel
theorem dJ2_getChar_3b067_38 : decode cJ2_getChar_3b067 38 = .ok (.sipush 255, 3) := by decide +kernel
theorem dJ2_getChar_3b067_41 : decode cJ2_getChar_3b067 41 = .ok (.iand, 1) := by decide +kernel
theorem dJ2_getChar_3b067_42 : decode cJ2_getChar_3b067 42 = .ok (.getstatic 59, 3) := by decide +kernel
theorem dJ2_getChar_3b067_45 : decode cJ2_getChar_3b067 45 = .ok (.ishl, 1) := by decide +kernel
theorem dJ2_getChar_3b067_46 : decode cJ2_getChar_3b067 46 = .ok (.aload_n 0, 1) := by decide +kernel
theorem dJ2_getChar_3b067_47 : decode cJ2_getChar_3b067 47 = .ok (.iload_n 1, 1) := by decide +kernel
theorem dJ2_getChar_3b067_48 : decode cJ2_getChar_3b067 48 = .ok (.baload, 1) := by decide +kernel
theorem dJ2_getChar_3b067_49 : decode cJ2_getChar_3b067 49 = .ok (.sipush 255, 3) := by decide +kernel
theorem dJ2_getChar_3b067_52 : decode cJ2_getChar_3b067 52 = .ok (.iand, 1) := by decide +kernel
theorem dJ2_getChar_3b067_53 : decode cJ2_getChar_3b067 53 = .ok (.getstatic 63, 3) := by decide +kernel
theorem dJ2_getChar_3b067_56 : decode cJ2_getChar_3b067 56 = .ok (.ishl, 1) := by decide +kernel
theorem dJ2_getChar_3b067_57 : decode cJ2_getChar_3b067 57 = .ok (.ior, 1) := by decide +kernel
theorem dJ2_getChar_3b067_58 : decode cJ2_getChar_3b067 58 = .ok (.i2c, 1) := by decide +kernel
theorem dJ2_getChar_3b067_59 : decode cJ2_getChar_3b067 59 = .ok (.ireturn, 1) := by decide +kernel
theorem dJ2_length_9d52b_0 : decode cJ2_length_9d52b 0 = .ok (.aload_n 0, 1) := by decide +kernel
theorem dJ2_length_9d52b_1 : decode cJ2_length_9d52b 1 = .ok (.arraylength, 1) := by decide +kernel
theorem dJ2_length_9d52b_2 : decode cJ2_length_9d52b 2 = .ok (.iconst 1, 1) := by decide +kernel
theorem dJ2_length_9d52b_3 : decode cJ2_length_9d52b 3 = .ok (.ishr, 1) := by decide +kernel
theorem dJ2_length_9d52b_4 : decode cJ2_length_9d52b 4 = .ok (.ireturn, 1) := by decide +kernel
set_option maxRecDepth 20000 in
theorem ggJ2_charAt_3b067_J2_checkIndex_2214a : GoodIn wsJ2_charAt_3b067 wsJ2_checkIndex_2214a := lq_goor _ [4, 5, 6, 3, 7, 8, 9, 10, 11, 12, 13, 14, 15, 16] rfl (by decide +kernel)
set_option maxRecDepth 20000 in
theorem gJ2_charAt_3b067_J2_checkIndex_2214a : GoodIn wsJ2_charAt_3b067 (va_wsS RJ2 67 yJ2_checkIndex_2214a wsJ2_checkIndex_2214a) := goodIn_app (lq_goor _ [1, 2, 3] rfl (by decide +kernel)) ggJ2_charAt_3b067_J2_checkIndex_2214a
set_option maxRecDepth 20000 in
theorem ggJ2_charAt_3b067_J2_getChar_3b067 : GoodIn wsJ2_charAt_3b067 wsJ2_getChar_3b067 := lq_goor _ [19, 20, 21, 22, 5, 6, 3, 7] rfl (by decide +kernel)
set_option maxRecDepth 20000 in
theorem gJ2_charAt_3b067_J2_getChar_3b067 : GoodIn wsJ2_charAt_3b067 (va_wsS RJ2 71 yJ2_getChar_3b067 wsJ2_getChar_3b067) := goodIn_app (lq_goor _ [17, 18, 3] rfl (by decide +kernel)) ggJ2_charAt_3b067_J2_getChar_3b067
theorem dJ2_charAt_3b067_0 : decode cJ2_charAt_3b067 0 = .ok (.iload_n 1, 1) := by decide +kernel
theorem dJ2_charAt_3b067_1 : decode cJ2_charAt_3b067 1 = .ok (.aload_n 0, 1) := by decide +kernel
theorem dJ2_charAt_3b067_2 : decode cJ2_charAt_3b067 2 = .ok (.invokestatic 67, 3) := by decide +kernel
theorem dJ2_charAt_3b067_5 : decode cJ2_charAt_3b067 5 = .ok (.aload_n 0, 1) := by decide +kernel
theorem dJ2_charAt_3b067_6 : decode cJ2_charAt_3b067 6 = .ok (.iload_n 1, 1) := by decide +kernel
theorem dJ2_charAt_3b067_7 : decode cJ2_charAt_3b067 7 = .ok (.invokestatic 71, 3) := by decide +kernel
theorem dJ2_charAt_3b067_10 : decode cJ2_charAt_3b067 10 = .ok (.ireturn, 1) := by decide +kernel
set_option maxRecDepth 20000 in
theorem ggJ2_checkIndex_2214a_J2_length_9d52b : GoodIn wsJ2_checkIndex_2214a wsJ2_length_9d52b := lq_goor _ [4] rfl (by decide +kernel)
set_option maxRecDepth 20000 in
theorem gJ2_checkIndex_2214a_J2_length_9d52b : GoodIn wsJ2_checkIndex_2214a (va_wsS RJ2 48 yJ2_length_9d52b wsJ2_length_9d52b) := goodIn_app (lq_goor _ [1, 2, 3] rfl (by decide +kernel)) ggJ2_checkIndex_2214a_J2_length_9d52b
set_option maxRecDepth 20000 in
theorem ggJ2_checkIndex_2214a_J0_checkIndex_df160 : GoodIn wsJ2_checkIndex_2214a wsJ0_checkIndex_df160 := lq_goor _ [8, 9, 10, 11, 12, 13] rfl (by decide +kernel)
set_option maxRecDepth 20000 in
theorem gJ2_checkIndex_2214a_J0_checkIndex_df160 : GoodIn wsJ2_checkIndex_2214a (va_wsS RJ2 414 yJ0_checkIndex_df160 wsJ0_checkIndex_df160) := goodIn_app (lq_goor _ [5, 6, 7] rfl (by decide +kernel)) ggJ2_checkIndex_2214a_J0_checkIndex_df160
theorem dJ2_checkIndex_2214a_0 : decode cJ2_checkIndex_2214a 0 = .ok (.iload_n 0, 1) := by decide +kernel
theorem dJ2_checkIndex_2214a_1 : decode cJ2_checkIndex_2214a 1 = .ok (.aload_n 1, 1) := by decide +kernel
theorem dJ2_checkIndex_2214a_2 : decode cJ2_checkIndex_2214a 2 = .ok (.invokestatic 48, 3) := by decide +kernel
theorem dJ2_checkIndex_2214a_5 : decode cJ2_checkIndex_2214a 5 = .ok (.invokestatic 414, 3) := by decide +kernel
theorem dJ2_checkIndex_2214a_8 : decode cJ2_checkIndex_2214a 8 = .ok (.return_, 1) := by decide +kernel
theorem dJ7_fill_53178_0 : decode cJ7_fill_53178 0 = .ok (.iconst 0, 1) := by decide +kernel
theorem dJ7_fill_53178_1 : decode cJ7_fill_53178 1 = .ok (.istore_n 2, 1) := by decide +kernel
theorem dJ7_fill_53178_2 : decode cJ7_fill_53178 2 = .ok (.aload_n 0, 1) := by decide +kernel
theorem dJ7_fill_53178_3 : decode cJ7_fill_53178 3 = .ok (.arraylength, 1) := by decide +kernel
theorem dJ7_fill_53178_4 : decode cJ7_fill_53178 4 = .ok (.istore_n 3, 1) := by decide +kernel
theorem dJ7_fill_53178_5 : decode cJ7_fill_53178 5 = .ok (.iload_n 2, 1) := by decide +kernel
theorem dJ7_fill_53178_6 : decode cJ7_fill_53178 6 = .ok (.iload_n 3, 1) := by decide +kernel
theorem dJ7_fill_53178_7 : decode cJ7_fill_53178 7 = .ok (.if_icmp .ge 13, 3) := by decide +kernel
theorem dJ7_fill_53178_10 : decode cJ7_fill_53178 10 = .ok (.aload_n 0, 1) := by decide +kernel
theorem dJ7_fill_53178_11 : decode cJ7_fill_53178 11 = .ok (.iload_n 2, 1) := by decide +kernel
theorem dJ7_fill_53178_12 : decode cJ7_fill_53178 12 = .ok (.iload_n 1, 1) := by decide +kernel
theorem dJ7_fill_53178_13 : decode cJ7_fill_53178 13 = .ok (.iastore, 1) := by decide +kernel
theorem dJ7_fill_53178_14 : decode cJ7_fill_53178 14 = .ok (.iinc 2 1, 3) := by decide +kernel
theorem dJ7_fill_53178_17 : decode cJ7_fill_53178 17 = .ok (.goto (-12), 3) := by decide +kernel
theorem dJ7_fill_53178_20 : decode cJ7_fill_53178 20 = .ok (.return_, 1) := by decide +kernel
theorem dJ7_copyOf_59c91_0 : decode cJ7_copyOf_59c91 0 = .ok (.iload_n 1, 1) := by decide +kernel
theorem dJ7_copyOf_59c91_1 : decode cJ7_copyOf_59c91 1 = .ok (.aload_n 0, 1) := by decide +kernel
theorem dJ7_copyOf_59c91_2 : decode cJ7_copyOf_59c91 2 = .ok (.arraylength, 1) := by decide +kernel
theorem dJ7_copyOf_59c91_3 : decode cJ7_copyOf_59c91 3 = .ok (.if_icmp .ne 11, 3) := by decide +kernel
theorem dJ7_copyOf_59c91_6 : decode cJ7_copyOf_59c91 6 = .ok (.aload_n 0, 1) := by decide +kernel
theorem dJ7_copyOf_59c91_7 : decode cJ7_copyOf_59c91 7 = .ok (.invokevirtual 316, 3) := by decide +kernel
theorem dJ7_copyOf_59c91_10 : decode cJ7_copyOf_59c91 10 = .ok (.checkcast 317, 3) := by decide +kernel
theorem dJ7_copyOf_59c91_13 : decode cJ7_copyOf_59c91 13 = .ok (.areturn, 1) := by decide +kernel
theorem dJ7_copyOf_59c91_14 : decode cJ7_copyOf_59c91 14 = .ok (.iload_n 1, 1) := by decide +kernel
theorem dJ7_copyOf_59c91_15 : decode cJ7_copyOf_59c91 15 = .ok (.newarray .int, 2) := by decide +kernel
theorem dJ7_copyOf_59c91_17 : decode cJ7_copyOf_59c91 17 = .ok (.astore_n 2, 1) := by decide +kernel
theorem dJ7_copyOf_59c91_18 : decode cJ7_copyOf_59c91 18 = .ok (.aload_n 0, 1) := by decide +kernel
theorem dJ7_copyOf_59c91_19 : decode cJ7_copyOf_59c91 19 = .ok (.iconst 0, 1) := by decide +kernel
theorem dJ7_copyOf_59c91_20 : decode cJ7_copyOf_59c91 20 = .ok (.aload_n 2, 1) := by decide +kernel
theorem dJ7_copyOf_59c91_21 : decode cJ7_copyOf_59c91 21 = .ok (.iconst 0, 1) := by decide +kernel
theorem dJ7_copyOf_59c91_22 : decode cJ7_copyOf_59c91 22 = .ok (.aload_n 0, 1) := by decide +kernel
theorem dJ7_copyOf_59c91_23 : decode cJ7_copyOf_59c91 23 = .ok (.arraylength, 1) := by decide +kernel
theorem dJ7_copyOf_59c91_24 : decode cJ7_copyOf_59c91 24 = .ok (.iload_n 1, 1) := by decide +kernel
theorem dJ7_copyOf_59c91_25 : decode cJ7_copyOf_59c91 25 = .ok (.invokestatic 304, 3) := by decide +kernel
theorem dJ7_copyOf_59c91_28 : decode cJ7_copyOf_59c91 28 = .ok (.invokestatic 150, 3) := by decide +kernel
theorem dJ7_copyOf_59c91_31 : decode cJ7_copyOf_59c91 31 = .ok (.aload_n 2, 1) := by decide +kernel
theorem dJ7_copyOf_59c91_32 : decode cJ7_copyOf_59c91 32 = .ok (.areturn, 1) := by decide +kernel
theorem dJ3_checkIndex_8e157_0 : decode cJ3_checkIndex_8e157 0 = .ok (.iload_n 0, 1) := by decide +kernel
theorem dJ3_checkIndex_8e157_1 : decode cJ3_checkIndex_8e157 1 = .ok (.ifCond .lt 8, 3) := by decide +kernel
theorem dJ3_checkIndex_8e157_4 : decode cJ3_checkIndex_8e157 4 = .ok (.iload_n 0, 1) := by decide +kernel
theorem dJ3_checkIndex_8e157_5 : decode cJ3_checkIndex_8e157 5 = .ok (.iload_n 1, 1) := by decide +kernel
theorem dJ3_checkIndex_8e157_6 : decode cJ3_checkIndex_8e157 6 = .ok (.if_icmp .lt 10, 3) := by decide +kernel
theorem dJ3_checkIndex_8e157_9 : decode cJ3_checkIndex_8e157 9 = .ok (.aload_n 2, 1) := by decide +kernel
theorem dJ3_checkIndex_8e157_10 : decode cJ3_checkIndex_8e157 10 = .ok (.iload_n 0, 1) := by decide +kernel
theorem dJ3_checkIndex_8e157_11 : decode cJ3_checkIndex_8e157 11 = .ok (.iload_n 1, 1) := by decide +kernel
theorem dJ3_checkIndex_8e157_12 : decode cJ3_checkIndex_8e157 12 = .ok (.invokestatic 95, 3) := by decide +kernel
theorem dJ3_checkIndex_8e157_15 : decode cJ3_checkIndex_8e157 15 = .ok (.athrow, 1) := by decide +kernel
theorem dJ3_checkIndex_8e157_16 : decode cJ3_checkIndex_8e157 16 = .ok (.iload_n 0, 1) := by decide +kernel
theorem dJ3_checkIndex_8e157_17 : decode cJ3_checkIndex_8e157 17 = .ok (.ireturn, 1) := by decide +kernel
set_option maxRecDepth 20000 in
theorem ggL_rider_X8_rider : GoodIn wsL_rider wsX8_rider := goodIn_ca (goodIn_r _ [6, 7, 8, 9, 10, 11, 5, 12, 13, 14, 15, 16, 17, 18, 19, 20, 21, 22, 23, 24, 25, 26, 27, 28, 29, 30, 31, 32, 33, 34, 35, 36, 37, 38, 39, 40, 41, 42, 43, 44, 45, 46, 47, 48, 49, 50, 51, 52, 53, 54, 55, 56, 57, 58] (by decide +kernel) (by decide +kernel)) (goodIn_sub (fun _ h => List.mem_cons_of_mem _ (List.mem_append_right _ h)) (by decide +kernel))
set_option maxRecDepth 20000 in
theorem gL_rider_X8_rider : GoodIn wsL_rider (wsV RL 7 RX8 yX8_rider wsX8_rider) := goodIn_app (goodIn_of _ (by decide +kernel)) ggL_rider_X8_rider
theorem dL_rider_0 : decode cL_rider 0 = .ok (.aload_n 3, 1) := by decide +kernel
theorem dL_rider_1 : decode cL_rider 1 = .ok (.iconst 0, 1) := by decide +kernel
theorem dL_rider_2 : decode cL_rider 2 = .ok (.aload_n 0, 1) := by decide +kernel
theorem dL_rider_3 : decode cL_rider 3 = .ok (.iload_n 1, 1) := by decide +kernel
theorem dL_rider_4 : decode cL_rider 4 = .ok (.iload_n 2, 1) := by decide +kernel
theorem dL_rider_5 : decode cL_rider 5 = .ok (.invokevirtual 7, 3) := by decide +kernel
theorem dL_rider_8 : decode cL_rider 8 = .ok (.i2l, 1) := by decide +kernel
theorem dL_rider_9 : decode cL_rider 9 = .ok (.lastore, 1) := by decide +kernel
theorem dL_rider_10 : decode cL_rider 10 = .ok (.goto 7, 3) := by decide +kernel
theorem dL_rider_13 : decode cL_rider 13 = .ok (.astore 4, 2) := by decide +kernel
theorem dL_rider_15 : decode cL_rider 15 = .ok (.iconst 1, 1) := by decide +kernel
theorem dL_rider_16 : decode cL_rider 16 = .ok (.ireturn, 1) := by decide +kernel
theorem dL_rider_17 : decode cL_rider 17 = .ok (.iconst 0, 1) := by decide +kernel
theorem dL_rider_18 : decode cL_rider 18 = .ok (.ireturn, 1) := by decide +kernel
set_option maxRecDepth 20000 in
theorem ggL_steed_X8_steed : GoodIn wsL_steed wsX8_steed := goodIn_ca (goodIn_r _ [6, 7, 8, 9, 10, 11, 5, 12, 13, 14, 15, 16, 17, 18, 19, 20, 21, 22, 23, 24, 25, 26, 27, 28, 29, 30, 31] (by decide +kernel) (by decide +kernel)) (goodIn_sub (fun _ h => List.mem_cons_of_mem _ (List.mem_append_right _ h)) (by decide +kernel))
set_option maxRecDepth 20000 in
theorem gL_steed_X8_steed : GoodIn wsL_steed (wsV RL 15 RX8 yX8_steed wsX8_steed) := goodIn_app (goodIn_of _ (by decide +kernel)) ggL_steed_X8_steed
theorem dL_steed_0 : decode cL_steed 0 = .ok (.aload_n 3, 1) := by decide +kernel
theorem dL_steed_1 : decode cL_steed 1 = .ok (.iconst 0, 1) := by decide +kernel
theorem dL_steed_2 : decode cL_steed 2 = .ok (.aload_n 0, 1) := by decide +kernel
theorem dL_steed_3 : decode cL_steed 3 = .ok (.iload_n 1, 1) := by decide +kernel
theorem dL_steed_4 : decode cL_steed 4 = .ok (.iload_n 2, 1) := by decide +kernel
theorem dL_steed_5 : decode cL_steed 5 = .ok (.invokevirtual 15, 3) := by decide +kernel
theorem dL_steed_8 : decode cL_steed 8 = .ok (.i2l, 1) := by decide +kernel
theorem dL_steed_9 : decode cL_steed 9 = .ok (.lastore, 1) := by decide +kernel
theorem dL_steed_10 : decode cL_steed 10 = .ok (.goto 7, 3) := by decide +kernel
theorem dL_steed_13 : decode cL_steed 13 = .ok (.astore 4, 2) := by decide +kernel
theorem dL_steed_15 : decode cL_steed 15 = .ok (.iconst 1, 1) := by decide +kernel
theorem dL_steed_16 : decode cL_steed 16 = .ok (.ireturn, 1) := by decide +kernel
theorem dL_steed_17 : decode cL_steed 17 = .ok (.iconst 0, 1) := by decide +kernel
theorem dL_steed_18 : decode cL_steed 18 = .ok (.ireturn, 1) := by decide +kernel
set_option maxRecDepth 20000 in
theorem ggL_law_X8_init : GoodIn wsL_law wsX8_init := goodIn_ca (goodIn_ca (goodIn_ca (goodIn_ca (goodIn_ca (lq_good _ [(0, 9), (0, 10), (0, 11), (0, 12), (0, 13), (0, 14), (0, 15), (0, 16), (0, 17), (0, 18), (0, 19), (0, 20), (0, 21), (0, 22), (0, 23), (1, 0), (1, 1), (1, 2), (1, 3), (1, 4), (1, 5), (1, 6), (1, 7), (1, 8), (1, 9), (1, 10), (1, 11), (1, 12), (1, 13), (1, 14), (1, 15), (1, 16), (1, 17), (1, 18), (1, 19), (1, 20), (1, 21), (1, 22), (1, 23), (2, 0), (2, 1), (2, 2), (2, 3), (2, 4), (2, 5), (2, 6), (2, 7), (2, 8), (2, 9), (2, 10), (2, 11), (2, 12), (2, 13), (2, 14), (2, 15)] rfl (by decide +kernel)) (goodIn_sub inlX7 gw_wsX70)) (goodIn_sub inlX8 gw_wsX80)) (goodIn_sub inlX3 gw_wsX30)) (goodIn_sub inlX1 gw_wsX10)) (goodIn_sub inlX5 gw_wsX50)
set_option maxRecDepth 20000 in
theorem gL_law_X8_init : GoodIn wsL_law (wsX8_init) := ggL_law_X8_init
set_option maxRecDepth 20000 in
theorem ggL_law_X9_init : GoodIn wsL_law wsX9_init := goodIn_ca (lq_good _ [(2, 18), (2, 19), (0, 11), (0, 12), (2, 20), (2, 21), (1, 1), (2, 22), (2, 23), (2, 1), (3, 0), (3, 1), (3, 2), (3, 3), (3, 4), (3, 5), (3, 6), (3, 7), (3, 8), (3, 9), (3, 10), (3, 11), (3, 12), (3, 13), (3, 14), (3, 15), (3, 16), (3, 17), (3, 18), (3, 19), (3, 20), (3, 21), (3, 22), (3, 23), (4, 0), (4, 1), (4, 2), (4, 3), (4, 4), (4, 5)] rfl (by decide +kernel)) (goodIn_sub inlX9 gw_wsX90)
set_option maxRecDepth 20000 in
theorem gL_law_X9_init : GoodIn wsL_law (wsX9_init) := ggL_law_X9_init
set_option maxRecDepth 20000 in
theorem ggL_law_X8_feed : GoodIn wsL_law wsX8_feed := goodIn_ca (goodIn_ca (lq_good _ [(4, 9), (0, 16), (4, 10), (4, 11), (4, 12), (0, 15), (4, 13), (4, 14), (4, 15), (4, 16), (4, 17), (4, 18), (1, 17)] rfl (by decide +kernel)) (goodIn_sub inlX8 gw_wsX80)) (goodIn_sub inlX7 gw_wsX70)
set_option maxRecDepth 20000 in
theorem gL_law_X8_feed : GoodIn wsL_law (wsV RL 22 RX8 yX8_feed wsX8_feed) := goodIn_app (lq_good _ [(4, 6), (4, 7), (4, 8), (0, 2)] rfl (by decide +kernel)) ggL_law_X8_feed
set_option maxRecDepth 20000 in
theorem ggL_law_X9_feed : GoodIn wsL_law wsX9_feed := goodIn_ca (lq_good _ [(4, 22), (4, 23), (5, 0), (5, 1), (5, 2), (5, 3), (0, 5), (5, 4), (2, 21)] rfl (by decide +kernel)) (goodIn_sub inlX9 gw_wsX90)
set_option maxRecDepth 20000 in
theorem gL_law_X9_feed : GoodIn wsL_law (wsV RL 26 RX9 yX9_feed wsX9_feed) := goodIn_app (lq_good _ [(4, 19), (4, 20), (4, 21), (0, 5)] rfl (by decide +kernel)) ggL_law_X9_feed
set_option maxRecDepth 20000 in
theorem ggL_law_X8_end : GoodIn wsL_law wsX8_end := goodIn_ca (goodIn_ca (lq_good _ [(5, 8), (0, 16)] rfl (by decide +kernel)) (goodIn_sub inlX8 gw_wsX80)) (goodIn_sub inlX7 gw_wsX70)
set_option maxRecDepth 20000 in
theorem gL_law_X8_end : GoodIn wsL_law (wsV RL 27 RX8 yX8_end wsX8_end) := goodIn_app (lq_good _ [(5, 5), (5, 6), (5, 7), (0, 2)] rfl (by decide +kernel)) ggL_law_X8_end
set_option maxRecDepth 20000 in
theorem ggL_law_X9_end : GoodIn wsL_law wsX9_end := goodIn_ca (lq_good _ [(5, 12), (4, 23), (5, 0)] rfl (by decide +kernel)) (goodIn_sub inlX9 gw_wsX90)
set_option maxRecDepth 20000 in
theorem gL_law_X9_end : GoodIn wsL_law (wsV RL 31 RX9 yX9_end wsX9_end) := goodIn_app (lq_good _ [(5, 9), (5, 10), (5, 11), (0, 5)] rfl (by decide +kernel)) ggL_law_X9_end
set_option maxRecDepth 20000 in
theorem ggL_law_X8_statutes : GoodIn wsL_law wsX8_statutes := goodIn_ca (goodIn_ca (goodIn_ca (goodIn_ca (lq_good _ [(5, 16), (5, 17), (5, 18), (5, 19), (0, 16), (5, 20), (1, 13), (5, 21), (5, 22), (5, 23), (6, 0), (0, 11), (0, 12), (6, 1), (1, 11), (1, 12), (6, 2), (2, 1), (6, 3), (6, 4), (2, 12), (2, 13), (2, 14), (1, 1), (2, 15), (6, 5), (6, 6), (6, 7), (6, 8), (6, 9), (6, 10), (6, 11), (6, 12), (6, 13), (6, 14), (6, 15), (6, 16), (6, 17), (6, 18), (6, 19), (0, 15), (6, 20), (4, 14), (1, 17), (6, 21), (6, 22), (6, 23), (7, 0), (7, 1), (7, 2), (7, 3), (7, 4), (7, 5), (7, 6), (7, 7), (7, 8), (7, 9), (7, 10), (7, 11), (7, 12), (7, 13), (7, 14), (7, 15), (7, 16), (7, 17), (7, 18), (7, 19), (7, 20), (7, 21), (7, 22), (7, 23), (8, 0), (8, 1), (8, 2), (8, 3), (8, 4), (8, 5), (8, 6), (8, 7), (8, 8), (8, 9), (8, 10), (8, 11), (8, 12), (8, 13), (8, 14), (8, 15), (8, 16), (8, 17), (8, 18), (8, 19), (8, 20), (8, 21), (8, 22), (8, 23), (9, 0), (9, 1), (9, 2), (9, 3), (9, 4), (9, 5), (9, 6), (9, 7), (9, 8), (9, 9), (9, 10), (9, 11), (9, 12), (9, 13), (9, 14), (9, 15), (9, 16), (9, 17), (9, 18), (9, 19), (9, 20), (9, 21), (9, 22), (9, 23), (10, 0), (10, 1), (10, 2), (10, 3), (10, 4), (10, 5), (10, 6), (10, 7), (10, 8), (10, 9), (10, 10), (10, 11), (10, 12), (10, 13), (10, 14), (10, 15), (10, 16), (10, 17), (10, 18), (10, 19), (10, 20), (10, 21), (10, 22), (10, 23), (11, 0), (11, 1), (11, 2), (11, 3), (11, 4), (11, 5), (11, 6), (11, 7), (11, 8), (11, 9), (11, 10)] rfl (by decide +kernel)) (goodIn_sub inlX4 gw_wsX40)) (goodIn_sub inlX8 gw_wsX80)) (goodIn_sub inlX7 gw_wsX70)) (goodIn_sub inlX5 gw_wsX50)
set_option maxRecDepth 20000 in
theorem gL_law_X8_statutes : GoodIn wsL_law (wsV RL 32 RX8 yX8_statutes wsX8_statutes) := goodIn_app (lq_good _ [(5, 13), (5, 14), (5, 15), (0, 2)] rfl (by decide +kernel)) ggL_law_X8_statutes
set_option maxRecDepth 20000 in
theorem ggL_law_X9_statutes : GoodIn wsL_law wsX9_statutes := goodIn_ca (lq_good _ [(11, 14), (4, 23), (11, 15), (3, 0), (2, 23), (11, 16), (11, 17), (2, 22), (11, 18), (11, 19), (11, 20), (0, 5), (11, 21), (5, 0), (11, 22), (11, 23), (12, 0), (12, 1), (12, 2), (12, 3), (12, 4), (12, 5), (12, 6), (12, 7), (12, 8), (12, 9), (12, 10), (2, 21), (12, 11), (12, 12), (12, 13), (12, 14), (12, 15), (12, 16), (12, 17), (12, 18), (12, 19), (12, 20), (12, 21), (12, 22), (12, 23), (13, 0), (13, 1), (13, 2), (13, 3), (13, 4), (13, 5), (13, 6), (13, 7), (13, 8), (13, 9), (13, 10), (13, 11), (13, 12)] rfl (by decide +kernel)) (goodIn_sub inlX9 gw_wsX90)
set_option maxRecDepth 20000 in
theorem gL_law_X9_statutes : GoodIn wsL_law (wsV RL 36 RX9 yX9_statutes wsX9_statutes) := goodIn_app (lq_good _ [(11, 11), (11, 12), (11, 13), (0, 5)] rfl (by decide +kernel)) ggL_law_X9_statutes
set_option maxRecDepth 20000 in
theorem ggL_law_X8_fault : GoodIn wsL_law wsX8_fault := goodIn_ca (lq_good _ [(13, 16), (5, 20)] rfl (by decide +kernel)) (goodIn_sub inlX8 gw_wsX80)
set_option maxRecDepth 20000 in
theorem gL_law_X8_fault : GoodIn wsL_law (wsV RL 37 RX8 yX8_fault wsX8_fault) := goodIn_app (lq_good _ [(13, 13), (13, 14), (13, 15), (0, 2)] rfl (by decide +kernel)) ggL_law_X8_fault
set_option maxRecDepth 20000 in
theorem ggL_law_X9_fault : GoodIn wsL_law wsX9_fault := goodIn_ca (lq_good _ [(13, 20), (4, 23), (11, 15)] rfl (by decide +kernel)) (goodIn_sub inlX9 gw_wsX90)
set_option maxRecDepth 20000 in
theorem gL_law_X9_fault : GoodIn wsL_law (wsV RL 40 RX9 yX9_fault wsX9_fault) := goodIn_app (lq_good _ [(13, 17), (13, 18), (13, 19), (0, 5)] rfl (by decide +kernel)) ggL_law_X9_fault
set_option maxRecDepth 20000 in
theorem ggL_law_X8_road : GoodIn wsL_law wsX8_road := goodIn_ca (goodIn_ca (lq_good _ [(14, 0), (0, 20), (14, 1), (14, 2), (0, 2), (14, 3), (14, 4), (14, 5), (14, 6), (0, 19), (14, 7), (1, 22), (14, 8), (14, 9), (14, 10), (14, 11), (1, 23)] rfl (by decide +kernel)) (goodIn_sub inlX8 gw_wsX80)) (goodIn_sub inlX3 gw_wsX30)
set_option maxRecDepth 20000 in
theorem gL_law_X8_road : GoodIn wsL_law (wsV RL 41 RX8 yX8_road wsX8_road) := goodIn_app (lq_good _ [(13, 21), (13, 22), (13, 23), (0, 2)] rfl (by decide +kernel)) ggL_law_X8_road
set_option maxRecDepth 20000 in
theorem ggL_law_X9_road : GoodIn wsL_law wsX9_road := goodIn_ca (lq_good _ [(14, 15), (4, 23), (3, 1), (3, 2), (14, 16), (14, 17), (0, 5), (14, 18)] rfl (by decide +kernel)) (goodIn_sub inlX9 gw_wsX90)
set_option maxRecDepth 20000 in
theorem gL_law_X9_road : GoodIn wsL_law (wsV RL 45 RX9 yX9_road wsX9_road) := goodIn_app (lq_good _ [(14, 12), (14, 13), (14, 14), (0, 5)] rfl (by decide +kernel)) ggL_law_X9_road
set_option maxRecDepth 20000 in
theorem ggL_law_X8_snow : GoodIn wsL_law wsX8_snow := goodIn_ca (goodIn_ca (lq_good _ [(14, 22), (0, 20), (14, 23), (15, 0), (15, 1), (0, 19), (15, 2), (1, 22), (1, 23), (14, 2), (0, 2), (14, 3), (15, 3), (14, 9), (14, 10), (14, 11)] rfl (by decide +kernel)) (goodIn_sub inlX8 gw_wsX80)) (goodIn_sub inlX3 gw_wsX30)
set_option maxRecDepth 20000 in
theorem gL_law_X8_snow : GoodIn wsL_law (wsV RL 46 RX8 yX8_snow wsX8_snow) := goodIn_app (lq_good _ [(14, 19), (14, 20), (14, 21), (0, 2)] rfl (by decide +kernel)) ggL_law_X8_snow
set_option maxRecDepth 20000 in
theorem ggL_law_X9_snow : GoodIn wsL_law wsX9_snow := goodIn_ca (lq_good _ [(15, 7), (4, 23), (3, 2), (14, 16), (14, 17), (0, 5), (14, 18), (15, 8), (15, 9), (15, 10), (15, 11), (3, 1)] rfl (by decide +kernel)) (goodIn_sub inlX9 gw_wsX90)
set_option maxRecDepth 20000 in
theorem gL_law_X9_snow : GoodIn wsL_law (wsV RL 49 RX9 yX9_snow wsX9_snow) := goodIn_app (lq_good _ [(15, 4), (15, 5), (15, 6), (0, 5)] rfl (by decide +kernel)) ggL_law_X9_snow
set_option maxRecDepth 20000 in
theorem ggL_law_X8_fodder : GoodIn wsL_law wsX8_fodder := goodIn_ca (lq_good _ [(15, 15), (1, 2), (15, 16), (14, 1), (14, 2), (0, 2), (14, 3)] rfl (by decide +kernel)) (goodIn_sub inlX8 gw_wsX80)
set_option maxRecDepth 20000 in
theorem gL_law_X8_fodder : GoodIn wsL_law (wsV RL 50 RX8 yX8_fodder wsX8_fodder) := goodIn_app (lq_good _ [(15, 12), (15, 13), (15, 14), (0, 2)] rfl (by decide +kernel)) ggL_law_X8_fodder
set_option maxRecDepth 20000 in
theorem ggL_law_X9_fodder : GoodIn wsL_law wsX9_fodder := goodIn_ca (lq_good _ [(15, 20), (4, 23), (3, 4), (15, 21), (14, 16), (14, 17), (0, 5), (14, 18)] rfl (by decide +kernel)) (goodIn_sub inlX9 gw_wsX90)
set_option maxRecDepth 20000 in
theorem gL_law_X9_fodder : GoodIn wsL_law (wsV RL 53 RX9 yX9_fodder wsX9_fodder) := goodIn_app (lq_good _ [(15, 17), (15, 18), (15, 19), (0, 5)] rfl (by decide +kernel)) ggL_law_X9_fodder
set_option maxRecDepth 20000 in
theorem ggL_law_X8_horse : GoodIn wsL_law wsX8_horse := goodIn_ca (goodIn_ca (lq_good _ [(16, 1), (16, 2), (1, 4), (1, 3), (16, 3), (16, 4), (14, 1), (14, 2), (0, 2), (14, 3), (16, 5), (16, 6), (16, 7), (16, 8), (0, 11), (0, 12), (16, 9), (16, 10), (16, 11)] rfl (by decide +kernel)) (goodIn_sub inlX8 gw_wsX80)) (goodIn_sub inlX0 gw_wsX00)
set_option maxRecDepth 20000 in
theorem gL_law_X8_horse : GoodIn wsL_law (wsV RL 54 RX8 yX8_horse wsX8_horse) := goodIn_app (lq_good _ [(15, 22), (15, 23), (16, 0), (0, 2)] rfl (by decide +kernel)) ggL_law_X8_horse
set_option maxRecDepth 20000 in
theorem ggL_law_X9_horse : GoodIn wsL_law wsX9_horse := goodIn_ca (lq_good _ [(16, 15), (4, 23), (16, 16), (3, 5), (3, 6), (14, 16), (14, 17), (0, 5), (14, 18)] rfl (by decide +kernel)) (goodIn_sub inlX9 gw_wsX90)
set_option maxRecDepth 20000 in
theorem gL_law_X9_horse : GoodIn wsL_law (wsV RL 57 RX9 yX9_horse wsX9_horse) := goodIn_app (lq_good _ [(16, 12), (16, 13), (16, 14), (0, 5)] rfl (by decide +kernel)) ggL_law_X9_horse
set_option maxRecDepth 20000 in
theorem ggL_law_X8_tablet : GoodIn wsL_law wsX8_tablet := goodIn_ca (goodIn_ca (lq_good _ [(16, 20), (16, 21), (1, 6), (1, 5), (16, 22), (16, 23), (17, 0), (17, 1), (17, 2), (17, 3), (0, 11), (0, 12), (1, 1), (17, 4), (17, 5), (17, 6), (17, 7), (17, 8), (17, 9)] rfl (by decide +kernel)) (goodIn_sub inlX8 gw_wsX80)) (goodIn_sub inlX6 gw_wsX60)
set_option maxRecDepth 20000 in
theorem gL_law_X8_tablet : GoodIn wsL_law (wsV RL 58 RX8 yX8_tablet wsX8_tablet) := goodIn_app (lq_good _ [(16, 17), (16, 18), (16, 19), (0, 2)] rfl (by decide +kernel)) ggL_law_X8_tablet
