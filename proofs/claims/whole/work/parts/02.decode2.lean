theorem dX7_refill_16 : decode cX7_refill 16 = .ok (.ireturn, 1) := by decide +kernel
theorem dX7_refill_17 : decode cX7_refill 17 = .ok (.aload_n 0, 1) := by decide +kernel
theorem dX7_refill_18 : decode cX7_refill 18 = .ok (.getfield 10, 3) := by decide +kernel
theorem dX7_refill_21 : decode cX7_refill 21 = .ok (.getfield 70, 3) := by decide +kernel
theorem dX7_refill_24 : decode cX7_refill 24 = .ok (.getfield 116, 3) := by decide +kernel
theorem dX7_refill_27 : decode cX7_refill 27 = .ok (.iload_n 1, 1) := by decide +kernel
theorem dX7_refill_28 : decode cX7_refill 28 = .ok (.iaload, 1) := by decide +kernel
theorem dX7_refill_29 : decode cX7_refill 29 = .ok (.aload_n 0, 1) := by decide +kernel
theorem dX7_refill_30 : decode cX7_refill 30 = .ok (.getfield 10, 3) := by decide +kernel
theorem dX7_refill_33 : decode cX7_refill 33 = .ok (.getfield 70, 3) := by decide +kernel
theorem dX7_refill_36 : decode cX7_refill 36 = .ok (.getfield 119, 3) := by decide +kernel
theorem dX7_refill_39 : decode cX7_refill 39 = .ok (.iload_n 1, 1) := by decide +kernel
theorem dX7_refill_40 : decode cX7_refill 40 = .ok (.iaload, 1) := by decide +kernel
theorem dX7_refill_41 : decode cX7_refill 41 = .ok (.isub, 1) := by decide +kernel
theorem dX7_refill_42 : decode cX7_refill 42 = .ok (.istore_n 2, 1) := by decide +kernel
theorem dX7_refill_43 : decode cX7_refill 43 = .ok (.iload_n 2, 1) := by decide +kernel
theorem dX7_refill_44 : decode cX7_refill 44 = .ok (.ifCond .ne 6, 3) := by decide +kernel
theorem dX7_refill_47 : decode cX7_refill 47 = .ok (.ldc 80, 2) := by decide +kernel
theorem dX7_refill_49 : decode cX7_refill 49 = .ok (.ireturn, 1) := by decide +kernel
theorem dX7_refill_50 : decode cX7_refill 50 = .ok (.aload_n 0, 1) := by decide +kernel
theorem dX7_refill_51 : decode cX7_refill 51 = .ok (.getfield 22, 3) := by decide +kernel
theorem dX7_refill_54 : decode cX7_refill 54 = .ok (.aload_n 0, 1) := by decide +kernel
theorem dX7_refill_55 : decode cX7_refill 55 = .ok (.getfield 10, 3) := by decide +kernel
theorem dX7_refill_58 : decode cX7_refill 58 = .ok (.invokevirtual 59, 3) := by decide +kernel
theorem dX7_refill_61 : decode cX7_refill 61 = .ok (.aload_n 0, 1) := by decide +kernel
theorem dX7_refill_62 : decode cX7_refill 62 = .ok (.getfield 10, 3) := by decide +kernel
theorem dX7_refill_65 : decode cX7_refill 65 = .ok (.getfield 70, 3) := by decide +kernel
theorem dX7_refill_68 : decode cX7_refill 68 = .ok (.getfield 119, 3) := by decide +kernel
theorem dX7_refill_71 : decode cX7_refill 71 = .ok (.iload_n 1, 1) := by decide +kernel
theorem dX7_refill_72 : decode cX7_refill 72 = .ok (.aload_n 0, 1) := by decide +kernel
theorem dX7_refill_73 : decode cX7_refill 73 = .ok (.getfield 10, 3) := by decide +kernel
theorem dX7_refill_76 : decode cX7_refill 76 = .ok (.getfield 70, 3) := by decide +kernel
theorem dX7_refill_79 : decode cX7_refill 79 = .ok (.getfield 116, 3) := by decide +kernel
theorem dX7_refill_82 : decode cX7_refill 82 = .ok (.iload_n 1, 1) := by decide +kernel
theorem dX7_refill_83 : decode cX7_refill 83 = .ok (.iaload, 1) := by decide +kernel
theorem dX7_refill_84 : decode cX7_refill 84 = .ok (.iastore, 1) := by decide +kernel
theorem dX7_refill_85 : decode cX7_refill 85 = .ok (.iload_n 2, 1) := by decide +kernel
theorem dX7_refill_86 : decode cX7_refill 86 = .ok (.ireturn, 1) := by decide +kernel
theorem dX7_penOf_0 : decode cX7_penOf 0 = .ok (.aload_n 0, 1) := by decide +kernel
theorem dX7_penOf_1 : decode cX7_penOf 1 = .ok (.getfield 10, 3) := by decide +kernel
theorem dX7_penOf_4 : decode cX7_penOf 4 = .ok (.getfield 70, 3) := by decide +kernel
theorem dX7_penOf_7 : decode cX7_penOf 7 = .ok (.iload_n 1, 1) := by decide +kernel
theorem dX7_penOf_8 : decode cX7_penOf 8 = .ok (.invokevirtual 103, 3) := by decide +kernel
theorem dX7_penOf_11 : decode cX7_penOf 11 = .ok (.ifCond .ne 6, 3) := by decide +kernel
theorem dX7_penOf_14 : decode cX7_penOf 14 = .ok (.ldc 58, 2) := by decide +kernel
theorem dX7_penOf_16 : decode cX7_penOf 16 = .ok (.ireturn, 1) := by decide +kernel
theorem dX7_penOf_17 : decode cX7_penOf 17 = .ok (.iload_n 2, 1) := by decide +kernel
theorem dX7_penOf_18 : decode cX7_penOf 18 = .ok (.tableswitch 205 0 10 #[58, 71, 84, 97, 110, 123, 136, 156, 169, 181, 193], 58) := by decide +kernel
theorem dX7_penOf_76 : decode cX7_penOf 76 = .ok (.aload_n 0, 1) := by decide +kernel
theorem dX7_penOf_77 : decode cX7_penOf 77 = .ok (.getfield 10, 3) := by decide +kernel
theorem dX7_penOf_80 : decode cX7_penOf 80 = .ok (.getfield 70, 3) := by decide +kernel
theorem dX7_penOf_83 : decode cX7_penOf 83 = .ok (.getfield 122, 3) := by decide +kernel
theorem dX7_penOf_86 : decode cX7_penOf 86 = .ok (.iload_n 1, 1) := by decide +kernel
theorem dX7_penOf_87 : decode cX7_penOf 87 = .ok (.iaload, 1) := by decide +kernel
theorem dX7_penOf_88 : decode cX7_penOf 88 = .ok (.ireturn, 1) := by decide +kernel
theorem dX7_penOf_89 : decode cX7_penOf 89 = .ok (.aload_n 0, 1) := by decide +kernel
theorem dX7_penOf_90 : decode cX7_penOf 90 = .ok (.getfield 10, 3) := by decide +kernel
theorem dX7_penOf_93 : decode cX7_penOf 93 = .ok (.getfield 70, 3) := by decide +kernel
theorem dX7_penOf_96 : decode cX7_penOf 96 = .ok (.getfield 116, 3) := by decide +kernel
theorem dX7_penOf_99 : decode cX7_penOf 99 = .ok (.iload_n 1, 1) := by decide +kernel
theorem dX7_penOf_100 : decode cX7_penOf 100 = .ok (.iaload, 1) := by decide +kernel
theorem dX7_penOf_101 : decode cX7_penOf 101 = .ok (.ireturn, 1) := by decide +kernel
theorem dX7_penOf_102 : decode cX7_penOf 102 = .ok (.aload_n 0, 1) := by decide +kernel
theorem dX7_penOf_103 : decode cX7_penOf 103 = .ok (.getfield 10, 3) := by decide +kernel
theorem dX7_penOf_106 : decode cX7_penOf 106 = .ok (.getfield 70, 3) := by decide +kernel
theorem dX7_penOf_109 : decode cX7_penOf 109 = .ok (.getfield 119, 3) := by decide +kernel
theorem dX7_penOf_112 : decode cX7_penOf 112 = .ok (.iload_n 1, 1) := by decide +kernel
theorem dX7_penOf_113 : decode cX7_penOf 113 = .ok (.iaload, 1) := by decide +kernel
theorem dX7_penOf_114 : decode cX7_penOf 114 = .ok (.ireturn, 1) := by decide +kernel
theorem dX7_penOf_115 : decode cX7_penOf 115 = .ok (.aload_n 0, 1) := by decide +kernel
theorem dX7_penOf_116 : decode cX7_penOf 116 = .ok (.getfield 10, 3) := by decide +kernel
theorem dX7_penOf_119 : decode cX7_penOf 119 = .ok (.getfield 70, 3) := by decide +kernel
theorem dX7_penOf_122 : decode cX7_penOf 122 = .ok (.getfield 125, 3) := by decide +kernel
theorem dX7_penOf_125 : decode cX7_penOf 125 = .ok (.iload_n 1, 1) := by decide +kernel
theorem dX7_penOf_126 : decode cX7_penOf 126 = .ok (.iaload, 1) := by decide +kernel
theorem dX7_penOf_127 : decode cX7_penOf 127 = .ok (.ireturn, 1) := by decide +kernel
theorem dX7_penOf_128 : decode cX7_penOf 128 = .ok (.aload_n 0, 1) := by decide +kernel
theorem dX7_penOf_129 : decode cX7_penOf 129 = .ok (.getfield 10, 3) := by decide +kernel
theorem dX7_penOf_132 : decode cX7_penOf 132 = .ok (.getfield 70, 3) := by decide +kernel
theorem dX7_penOf_135 : decode cX7_penOf 135 = .ok (.getfield 128, 3) := by decide +kernel
theorem dX7_penOf_138 : decode cX7_penOf 138 = .ok (.iload_n 1, 1) := by decide +kernel
theorem dX7_penOf_139 : decode cX7_penOf 139 = .ok (.iaload, 1) := by decide +kernel
theorem dX7_penOf_140 : decode cX7_penOf 140 = .ok (.ireturn, 1) := by decide +kernel
theorem dX7_penOf_141 : decode cX7_penOf 141 = .ok (.aload_n 0, 1) := by decide +kernel
theorem dX7_penOf_142 : decode cX7_penOf 142 = .ok (.getfield 10, 3) := by decide +kernel
theorem dX7_penOf_145 : decode cX7_penOf 145 = .ok (.getfield 70, 3) := by decide +kernel
theorem dX7_penOf_148 : decode cX7_penOf 148 = .ok (.getfield 131, 3) := by decide +kernel
theorem dX7_penOf_151 : decode cX7_penOf 151 = .ok (.iload_n 1, 1) := by decide +kernel
theorem dX7_penOf_152 : decode cX7_penOf 152 = .ok (.iaload, 1) := by decide +kernel
theorem dX7_penOf_153 : decode cX7_penOf 153 = .ok (.ireturn, 1) := by decide +kernel
theorem dX7_penOf_154 : decode cX7_penOf 154 = .ok (.aload_n 0, 1) := by decide +kernel
theorem dX7_penOf_155 : decode cX7_penOf 155 = .ok (.getfield 10, 3) := by decide +kernel
theorem dX7_penOf_158 : decode cX7_penOf 158 = .ok (.getfield 109, 3) := by decide +kernel
theorem dX7_penOf_161 : decode cX7_penOf 161 = .ok (.iload_n 1, 1) := by decide +kernel
theorem dX7_penOf_162 : decode cX7_penOf 162 = .ok (.if_icmp .ne 7, 3) := by decide +kernel
theorem dX7_penOf_165 : decode cX7_penOf 165 = .ok (.iconst 1, 1) := by decide +kernel
theorem dX7_penOf_166 : decode cX7_penOf 166 = .ok (.goto 4, 3) := by decide +kernel
theorem dX7_penOf_169 : decode cX7_penOf 169 = .ok (.iconst 0, 1) := by decide +kernel
theorem dX7_penOf_170 : decode cX7_penOf 170 = .ok (.invokestatic 134, 3) := by decide +kernel
theorem dX7_penOf_173 : decode cX7_penOf 173 = .ok (.ireturn, 1) := by decide +kernel
theorem dX7_penOf_174 : decode cX7_penOf 174 = .ok (.aload_n 0, 1) := by decide +kernel
theorem dX7_penOf_175 : decode cX7_penOf 175 = .ok (.getfield 10, 3) := by decide +kernel
theorem dX7_penOf_178 : decode cX7_penOf 178 = .ok (.getfield 70, 3) := by decide +kernel
theorem dX7_penOf_181 : decode cX7_penOf 181 = .ok (.getfield 106, 3) := by decide +kernel
theorem dX7_penOf_184 : decode cX7_penOf 184 = .ok (.iload_n 1, 1) := by decide +kernel
theorem dX7_penOf_185 : decode cX7_penOf 185 = .ok (.iaload, 1) := by decide +kernel
theorem dX7_penOf_186 : decode cX7_penOf 186 = .ok (.ireturn, 1) := by decide +kernel
theorem dX7_penOf_187 : decode cX7_penOf 187 = .ok (.aload_n 0, 1) := by decide +kernel
theorem dX7_penOf_188 : decode cX7_penOf 188 = .ok (.getfield 10, 3) := by decide +kernel
theorem dX7_penOf_191 : decode cX7_penOf 191 = .ok (.iload_n 1, 1) := by decide +kernel
theorem dX7_penOf_192 : decode cX7_penOf 192 = .ok (.invokevirtual 138, 3) := by decide +kernel
theorem dX7_penOf_195 : decode cX7_penOf 195 = .ok (.invokestatic 134, 3) := by decide +kernel
theorem dX7_penOf_198 : decode cX7_penOf 198 = .ok (.ireturn, 1) := by decide +kernel
theorem dX7_penOf_199 : decode cX7_penOf 199 = .ok (.aload_n 0, 1) := by decide +kernel
theorem dX7_penOf_200 : decode cX7_penOf 200 = .ok (.getfield 10, 3) := by decide +kernel
theorem dX7_penOf_203 : decode cX7_penOf 203 = .ok (.iload_n 1, 1) := by decide +kernel
theorem dX7_penOf_204 : decode cX7_penOf 204 = .ok (.invokevirtual 141, 3) := by decide +kernel
theorem dX7_penOf_207 : decode cX7_penOf 207 = .ok (.invokestatic 134, 3) := by decide +kernel
theorem dX7_penOf_210 : decode cX7_penOf 210 = .ok (.ireturn, 1) := by decide +kernel
theorem dX7_penOf_211 : decode cX7_penOf 211 = .ok (.aload_n 0, 1) := by decide +kernel
theorem dX7_penOf_212 : decode cX7_penOf 212 = .ok (.getfield 10, 3) := by decide +kernel
theorem dX7_penOf_215 : decode cX7_penOf 215 = .ok (.getfield 93, 3) := by decide +kernel
theorem dX7_penOf_218 : decode cX7_penOf 218 = .ok (.iload_n 1, 1) := by decide +kernel
theorem dX7_penOf_219 : decode cX7_penOf 219 = .ok (.invokevirtual 144, 3) := by decide +kernel
theorem dX7_penOf_222 : decode cX7_penOf 222 = .ok (.ireturn, 1) := by decide +kernel
theorem dX7_penOf_223 : decode cX7_penOf 223 = .ok (.ldc 58, 2) := by decide +kernel
theorem dX7_penOf_225 : decode cX7_penOf 225 = .ok (.ireturn, 1) := by decide +kernel
theorem dX7_lineOf_0 : decode cX7_lineOf 0 = .ok (.aload_n 0, 1) := by decide +kernel
theorem dX7_lineOf_1 : decode cX7_lineOf 1 = .ok (.getfield 10, 3) := by decide +kernel
theorem dX7_lineOf_4 : decode cX7_lineOf 4 = .ok (.getfield 93, 3) := by decide +kernel
theorem dX7_lineOf_7 : decode cX7_lineOf 7 = .ok (.iload_n 1, 1) := by decide +kernel
theorem dX7_lineOf_8 : decode cX7_lineOf 8 = .ok (.invokevirtual 148, 3) := by decide +kernel
theorem dX7_lineOf_11 : decode cX7_lineOf 11 = .ok (.ifCond .eq 13, 3) := by decide +kernel
theorem dX7_lineOf_14 : decode cX7_lineOf 14 = .ok (.iload_n 2, 1) := by decide +kernel
theorem dX7_lineOf_15 : decode cX7_lineOf 15 = .ok (.iconst 0, 1) := by decide +kernel
theorem dX7_lineOf_16 : decode cX7_lineOf 16 = .ok (.bipush 9, 2) := by decide +kernel
theorem dX7_lineOf_18 : decode cX7_lineOf 18 = .ok (.invokestatic 47, 3) := by decide +kernel
theorem dX7_lineOf_21 : decode cX7_lineOf 21 = .ok (.ifCond .ne 6, 3) := by decide +kernel
theorem dX7_lineOf_24 : decode cX7_lineOf 24 = .ok (.ldc 58, 2) := by decide +kernel
theorem dX7_lineOf_26 : decode cX7_lineOf 26 = .ok (.ireturn, 1) := by decide +kernel
theorem dX7_lineOf_27 : decode cX7_lineOf 27 = .ok (.iload_n 2, 1) := by decide +kernel
theorem dX7_lineOf_28 : decode cX7_lineOf 28 = .ok (.bipush 6, 2) := by decide +kernel
theorem dX7_lineOf_30 : decode cX7_lineOf 30 = .ok (.if_icmp .eq 15, 3) := by decide +kernel
theorem dX7_lineOf_33 : decode cX7_lineOf 33 = .ok (.iload_n 2, 1) := by decide +kernel
theorem dX7_lineOf_34 : decode cX7_lineOf 34 = .ok (.bipush 7, 2) := by decide +kernel
theorem dX7_lineOf_36 : decode cX7_lineOf 36 = .ok (.if_icmp .eq 9, 3) := by decide +kernel
theorem dX7_lineOf_39 : decode cX7_lineOf 39 = .ok (.iload_n 2, 1) := by decide +kernel
theorem dX7_lineOf_40 : decode cX7_lineOf 40 = .ok (.bipush 9, 2) := by decide +kernel
theorem dX7_lineOf_42 : decode cX7_lineOf 42 = .ok (.if_icmp .ne 7, 3) := by decide +kernel
theorem dX7_lineOf_45 : decode cX7_lineOf 45 = .ok (.iconst 1, 1) := by decide +kernel
theorem dX7_lineOf_46 : decode cX7_lineOf 46 = .ok (.goto 4, 3) := by decide +kernel
theorem dX7_lineOf_49 : decode cX7_lineOf 49 = .ok (.iconst 0, 1) := by decide +kernel
theorem dX7_lineOf_50 : decode cX7_lineOf 50 = .ok (.istore_n 3, 1) := by decide +kernel
theorem dX7_lineOf_51 : decode cX7_lineOf 51 = .ok (.iload_n 3, 1) := by decide +kernel
theorem dX7_lineOf_52 : decode cX7_lineOf 52 = .ok (.ifCond .eq 20, 3) := by decide +kernel
theorem dX7_lineOf_55 : decode cX7_lineOf 55 = .ok (.aload_n 0, 1) := by decide +kernel
theorem dX7_lineOf_56 : decode cX7_lineOf 56 = .ok (.getfield 10, 3) := by decide +kernel
theorem dX7_lineOf_59 : decode cX7_lineOf 59 = .ok (.getfield 93, 3) := by decide +kernel
theorem dX7_lineOf_62 : decode cX7_lineOf 62 = .ok (.iload_n 1, 1) := by decide +kernel
theorem dX7_lineOf_63 : decode cX7_lineOf 63 = .ok (.invokevirtual 149, 3) := by decide +kernel
theorem dX7_lineOf_66 : decode cX7_lineOf 66 = .ok (.ifCond .ne 6, 3) := by decide +kernel
theorem dX7_lineOf_69 : decode cX7_lineOf 69 = .ok (.ldc 152, 2) := by decide +kernel
theorem dX7_lineOf_71 : decode cX7_lineOf 71 = .ok (.ireturn, 1) := by decide +kernel
theorem dX7_lineOf_72 : decode cX7_lineOf 72 = .ok (.iload_n 2, 1) := by decide +kernel
theorem dX7_lineOf_73 : decode cX7_lineOf 73 = .ok (.tableswitch 169 0 8 #[51, 64, 77, 90, 103, 116, 131, 144, 157], 51) := by decide +kernel
theorem dX7_lineOf_124 : decode cX7_lineOf 124 = .ok (.aload_n 0, 1) := by decide +kernel
theorem dX7_lineOf_125 : decode cX7_lineOf 125 = .ok (.getfield 10, 3) := by decide +kernel
theorem dX7_lineOf_128 : decode cX7_lineOf 128 = .ok (.getfield 93, 3) := by decide +kernel
theorem dX7_lineOf_131 : decode cX7_lineOf 131 = .ok (.getfield 153, 3) := by decide +kernel
theorem dX7_lineOf_134 : decode cX7_lineOf 134 = .ok (.iload_n 1, 1) := by decide +kernel
theorem dX7_lineOf_135 : decode cX7_lineOf 135 = .ok (.iaload, 1) := by decide +kernel
theorem dX7_lineOf_136 : decode cX7_lineOf 136 = .ok (.ireturn, 1) := by decide +kernel
theorem dX7_lineOf_137 : decode cX7_lineOf 137 = .ok (.aload_n 0, 1) := by decide +kernel
theorem dX7_lineOf_138 : decode cX7_lineOf 138 = .ok (.getfield 10, 3) := by decide +kernel
theorem dX7_lineOf_141 : decode cX7_lineOf 141 = .ok (.getfield 93, 3) := by decide +kernel
theorem dX7_lineOf_144 : decode cX7_lineOf 144 = .ok (.getfield 156, 3) := by decide +kernel
theorem dX7_lineOf_147 : decode cX7_lineOf 147 = .ok (.iload_n 1, 1) := by decide +kernel
theorem dX7_lineOf_148 : decode cX7_lineOf 148 = .ok (.iaload, 1) := by decide +kernel
theorem dX7_lineOf_149 : decode cX7_lineOf 149 = .ok (.ireturn, 1) := by decide +kernel
theorem dX7_lineOf_150 : decode cX7_lineOf 150 = .ok (.aload_n 0, 1) := by decide +kernel
theorem dX7_lineOf_151 : decode cX7_lineOf 151 = .ok (.getfield 10, 3) := by decide +kernel
theorem dX7_lineOf_154 : decode cX7_lineOf 154 = .ok (.getfield 93, 3) := by decide +kernel
theorem dX7_lineOf_157 : decode cX7_lineOf 157 = .ok (.getfield 159, 3) := by decide +kernel
theorem dX7_lineOf_160 : decode cX7_lineOf 160 = .ok (.iload_n 1, 1) := by decide +kernel
theorem dX7_lineOf_161 : decode cX7_lineOf 161 = .ok (.iaload, 1) := by decide +kernel
theorem dX7_lineOf_162 : decode cX7_lineOf 162 = .ok (.ireturn, 1) := by decide +kernel
theorem dX7_lineOf_163 : decode cX7_lineOf 163 = .ok (.aload_n 0, 1) := by decide +kernel
theorem dX7_lineOf_164 : decode cX7_lineOf 164 = .ok (.getfield 10, 3) := by decide +kernel
theorem dX7_lineOf_167 : decode cX7_lineOf 167 = .ok (.getfield 93, 3) := by decide +kernel
theorem dX7_lineOf_170 : decode cX7_lineOf 170 = .ok (.getfield 162, 3) := by decide +kernel
theorem dX7_lineOf_173 : decode cX7_lineOf 173 = .ok (.iload_n 1, 1) := by decide +kernel
theorem dX7_lineOf_174 : decode cX7_lineOf 174 = .ok (.iaload, 1) := by decide +kernel
theorem dX7_lineOf_175 : decode cX7_lineOf 175 = .ok (.ireturn, 1) := by decide +kernel
theorem dX7_lineOf_176 : decode cX7_lineOf 176 = .ok (.aload_n 0, 1) := by decide +kernel
theorem dX7_lineOf_177 : decode cX7_lineOf 177 = .ok (.getfield 10, 3) := by decide +kernel
theorem dX7_lineOf_180 : decode cX7_lineOf 180 = .ok (.getfield 93, 3) := by decide +kernel
theorem dX7_lineOf_183 : decode cX7_lineOf 183 = .ok (.getfield 165, 3) := by decide +kernel
theorem dX7_lineOf_186 : decode cX7_lineOf 186 = .ok (.iload_n 1, 1) := by decide +kernel
theorem dX7_lineOf_187 : decode cX7_lineOf 187 = .ok (.iaload, 1) := by decide +kernel
theorem dX7_lineOf_188 : decode cX7_lineOf 188 = .ok (.ireturn, 1) := by decide +kernel
theorem dX7_lineOf_189 : decode cX7_lineOf 189 = .ok (.aload_n 0, 1) := by decide +kernel
theorem dX7_lineOf_190 : decode cX7_lineOf 190 = .ok (.getfield 10, 3) := by decide +kernel
theorem dX7_lineOf_193 : decode cX7_lineOf 193 = .ok (.getfield 93, 3) := by decide +kernel
theorem dX7_lineOf_196 : decode cX7_lineOf 196 = .ok (.iload_n 1, 1) := by decide +kernel
theorem dX7_lineOf_197 : decode cX7_lineOf 197 = .ok (.invokevirtual 149, 3) := by decide +kernel
theorem dX7_lineOf_200 : decode cX7_lineOf 200 = .ok (.invokestatic 134, 3) := by decide +kernel
theorem dX7_lineOf_203 : decode cX7_lineOf 203 = .ok (.ireturn, 1) := by decide +kernel
theorem dX7_lineOf_204 : decode cX7_lineOf 204 = .ok (.aload_n 0, 1) := by decide +kernel
theorem dX7_lineOf_205 : decode cX7_lineOf 205 = .ok (.getfield 10, 3) := by decide +kernel
theorem dX7_lineOf_208 : decode cX7_lineOf 208 = .ok (.getfield 93, 3) := by decide +kernel
theorem dX7_lineOf_211 : decode cX7_lineOf 211 = .ok (.getfield 168, 3) := by decide +kernel
theorem dX7_lineOf_214 : decode cX7_lineOf 214 = .ok (.iload_n 1, 1) := by decide +kernel
theorem dX7_lineOf_215 : decode cX7_lineOf 215 = .ok (.iaload, 1) := by decide +kernel
theorem dX7_lineOf_216 : decode cX7_lineOf 216 = .ok (.ireturn, 1) := by decide +kernel
theorem dX7_lineOf_217 : decode cX7_lineOf 217 = .ok (.aload_n 0, 1) := by decide +kernel
theorem dX7_lineOf_218 : decode cX7_lineOf 218 = .ok (.getfield 10, 3) := by decide +kernel
theorem dX7_lineOf_221 : decode cX7_lineOf 221 = .ok (.getfield 93, 3) := by decide +kernel
theorem dX7_lineOf_224 : decode cX7_lineOf 224 = .ok (.getfield 171, 3) := by decide +kernel
theorem dX7_lineOf_227 : decode cX7_lineOf 227 = .ok (.iload_n 1, 1) := by decide +kernel
theorem dX7_lineOf_228 : decode cX7_lineOf 228 = .ok (.iaload, 1) := by decide +kernel
theorem dX7_lineOf_229 : decode cX7_lineOf 229 = .ok (.ireturn, 1) := by decide +kernel
theorem dX7_lineOf_230 : decode cX7_lineOf 230 = .ok (.aload_n 0, 1) := by decide +kernel
theorem dX7_lineOf_231 : decode cX7_lineOf 231 = .ok (.getfield 10, 3) := by decide +kernel
theorem dX7_lineOf_234 : decode cX7_lineOf 234 = .ok (.iload_n 1, 1) := by decide +kernel
theorem dX7_lineOf_235 : decode cX7_lineOf 235 = .ok (.invokevirtual 174, 3) := by decide +kernel
theorem dX7_lineOf_238 : decode cX7_lineOf 238 = .ok (.invokestatic 134, 3) := by decide +kernel
theorem dX7_lineOf_241 : decode cX7_lineOf 241 = .ok (.ireturn, 1) := by decide +kernel
theorem dX7_lineOf_242 : decode cX7_lineOf 242 = .ok (.aload_n 0, 1) := by decide +kernel
theorem dX7_lineOf_243 : decode cX7_lineOf 243 = .ok (.getfield 10, 3) := by decide +kernel
theorem dX7_lineOf_246 : decode cX7_lineOf 246 = .ok (.iload_n 1, 1) := by decide +kernel
theorem dX7_lineOf_247 : decode cX7_lineOf 247 = .ok (.invokevirtual 177, 3) := by decide +kernel
theorem dX7_lineOf_250 : decode cX7_lineOf 250 = .ok (.invokestatic 181, 3) := by decide +kernel
theorem dX7_lineOf_253 : decode cX7_lineOf 253 = .ok (.ireturn, 1) := by decide +kernel
theorem dX7_take_0 : decode cX7_take 0 = .ok (.aload_n 0, 1) := by decide +kernel
theorem dX7_take_1 : decode cX7_take 1 = .ok (.getfield 10, 3) := by decide +kernel
theorem dX7_take_4 : decode cX7_take 4 = .ok (.getfield 70, 3) := by decide +kernel
theorem dX7_take_7 : decode cX7_take 7 = .ok (.iload_n 1, 1) := by decide +kernel
theorem dX7_take_8 : decode cX7_take 8 = .ok (.invokevirtual 103, 3) := by decide +kernel
theorem dX7_take_11 : decode cX7_take 11 = .ok (.ifCond .ne 6, 3) := by decide +kernel
theorem dX7_take_14 : decode cX7_take 14 = .ok (.ldc 58, 2) := by decide +kernel
theorem dX7_take_16 : decode cX7_take 16 = .ok (.ireturn, 1) := by decide +kernel
theorem dX7_take_17 : decode cX7_take 17 = .ok (.aload_n 0, 1) := by decide +kernel
theorem dX7_take_18 : decode cX7_take 18 = .ok (.getfield 10, 3) := by decide +kernel
theorem dX7_take_21 : decode cX7_take 21 = .ok (.iload_n 1, 1) := by decide +kernel
theorem dX7_take_22 : decode cX7_take 22 = .ok (.invokevirtual 185, 3) := by decide +kernel
theorem dX7_take_25 : decode cX7_take 25 = .ok (.istore_n 2, 1) := by decide +kernel
theorem dX7_take_26 : decode cX7_take 26 = .ok (.iload_n 2, 1) := by decide +kernel
theorem dX7_take_27 : decode cX7_take 27 = .ok (.ifCond .eq 5, 3) := by decide +kernel
theorem dX7_take_30 : decode cX7_take 30 = .ok (.iload_n 2, 1) := by decide +kernel
theorem dX7_take_31 : decode cX7_take 31 = .ok (.ireturn, 1) := by decide +kernel
theorem dX7_take_32 : decode cX7_take 32 = .ok (.aload_n 0, 1) := by decide +kernel
theorem dX7_take_33 : decode cX7_take 33 = .ok (.getfield 22, 3) := by decide +kernel
theorem dX7_take_36 : decode cX7_take 36 = .ok (.aload_n 0, 1) := by decide +kernel
theorem dX7_take_37 : decode cX7_take 37 = .ok (.getfield 10, 3) := by decide +kernel
theorem dX7_take_40 : decode cX7_take 40 = .ok (.invokevirtual 59, 3) := by decide +kernel
theorem dX7_take_43 : decode cX7_take 43 = .ok (.iconst 1, 1) := by decide +kernel
theorem dX7_take_44 : decode cX7_take 44 = .ok (.aload_n 0, 1) := by decide +kernel
theorem dX7_take_45 : decode cX7_take 45 = .ok (.getfield 10, 3) := by decide +kernel
theorem dX7_take_48 : decode cX7_take 48 = .ok (.iload_n 1, 1) := by decide +kernel
theorem dX7_take_49 : decode cX7_take 49 = .ok (.invokevirtual 188, 3) := by decide +kernel
theorem dX7_take_52 : decode cX7_take 52 = .ok (.iadd, 1) := by decide +kernel
theorem dX7_take_53 : decode cX7_take 53 = .ok (.ireturn, 1) := by decide +kernel
theorem dX7_home_0 : decode cX7_home 0 = .ok (.aload_n 0, 1) := by decide +kernel
theorem dX7_home_1 : decode cX7_home 1 = .ok (.getfield 10, 3) := by decide +kernel
theorem dX7_home_4 : decode cX7_home 4 = .ok (.invokevirtual 191, 3) := by decide +kernel
theorem dX7_home_7 : decode cX7_home 7 = .ok (.istore_n 1, 1) := by decide +kernel
theorem dX7_home_8 : decode cX7_home 8 = .ok (.iload_n 1, 1) := by decide +kernel
theorem dX7_home_9 : decode cX7_home 9 = .ok (.ifCond .eq 5, 3) := by decide +kernel
theorem dX7_home_12 : decode cX7_home 12 = .ok (.iload_n 1, 1) := by decide +kernel
theorem dX7_home_13 : decode cX7_home 13 = .ok (.ireturn, 1) := by decide +kernel
theorem dX7_home_14 : decode cX7_home 14 = .ok (.aload_n 0, 1) := by decide +kernel
theorem dX7_home_15 : decode cX7_home 15 = .ok (.getfield 22, 3) := by decide +kernel
theorem dX7_home_18 : decode cX7_home 18 = .ok (.aload_n 0, 1) := by decide +kernel
theorem dX7_home_19 : decode cX7_home 19 = .ok (.getfield 10, 3) := by decide +kernel
theorem dX7_home_22 : decode cX7_home 22 = .ok (.invokevirtual 59, 3) := by decide +kernel
theorem dX7_home_25 : decode cX7_home 25 = .ok (.aload_n 0, 1) := by decide +kernel
theorem dX7_home_26 : decode cX7_home 26 = .ok (.getfield 10, 3) := by decide +kernel
theorem dX7_home_29 : decode cX7_home 29 = .ok (.iconst (-1), 1) := by decide +kernel
theorem dX7_home_30 : decode cX7_home 30 = .ok (.invokevirtual 188, 3) := by decide +kernel
theorem dX7_home_33 : decode cX7_home 33 = .ok (.ireturn, 1) := by decide +kernel
theorem dX7_draw_0 : decode cX7_draw 0 = .ok (.aload_n 0, 1) := by decide +kernel
theorem dX7_draw_1 : decode cX7_draw 1 = .ok (.getfield 10, 3) := by decide +kernel
theorem dX7_draw_4 : decode cX7_draw 4 = .ok (.getfield 93, 3) := by decide +kernel
theorem dX7_draw_7 : decode cX7_draw 7 = .ok (.iload_n 1, 1) := by decide +kernel
theorem dX7_draw_8 : decode cX7_draw 8 = .ok (.invokevirtual 148, 3) := by decide +kernel
theorem dX7_draw_11 : decode cX7_draw 11 = .ok (.ifCond .eq 12, 3) := by decide +kernel
theorem dX7_draw_14 : decode cX7_draw 14 = .ok (.iload_n 2, 1) := by decide +kernel
theorem dX7_draw_15 : decode cX7_draw 15 = .ok (.iconst 0, 1) := by decide +kernel
theorem dX7_draw_16 : decode cX7_draw 16 = .ok (.iconst 1, 1) := by decide +kernel
theorem dX7_draw_17 : decode cX7_draw 17 = .ok (.invokestatic 47, 3) := by decide +kernel
theorem dX7_draw_20 : decode cX7_draw 20 = .ok (.ifCond .ne 6, 3) := by decide +kernel
theorem dX7_draw_23 : decode cX7_draw 23 = .ok (.ldc 58, 2) := by decide +kernel
theorem dX7_draw_25 : decode cX7_draw 25 = .ok (.ireturn, 1) := by decide +kernel
theorem dX7_draw_26 : decode cX7_draw 26 = .ok (.aload_n 0, 1) := by decide +kernel
theorem dX7_draw_27 : decode cX7_draw 27 = .ok (.getfield 10, 3) := by decide +kernel
theorem dX7_draw_30 : decode cX7_draw 30 = .ok (.iload_n 1, 1) := by decide +kernel
theorem dX7_draw_31 : decode cX7_draw 31 = .ok (.iload_n 2, 1) := by decide +kernel
theorem dX7_draw_32 : decode cX7_draw 32 = .ok (.iconst 0, 1) := by decide +kernel
theorem dX7_draw_33 : decode cX7_draw 33 = .ok (.invokevirtual 194, 3) := by decide +kernel
theorem dX7_draw_36 : decode cX7_draw 36 = .ok (.ifCond .eq 6, 3) := by decide +kernel
theorem dX7_draw_39 : decode cX7_draw 39 = .ok (.ldc 80, 2) := by decide +kernel
theorem dX7_draw_41 : decode cX7_draw 41 = .ok (.ireturn, 1) := by decide +kernel
theorem dX7_draw_42 : decode cX7_draw 42 = .ok (.aload_n 0, 1) := by decide +kernel
theorem dX7_draw_43 : decode cX7_draw 43 = .ok (.getfield 22, 3) := by decide +kernel
theorem dX7_draw_46 : decode cX7_draw 46 = .ok (.aload_n 0, 1) := by decide +kernel
theorem dX7_draw_47 : decode cX7_draw 47 = .ok (.getfield 10, 3) := by decide +kernel
theorem dX7_draw_50 : decode cX7_draw 50 = .ok (.invokevirtual 59, 3) := by decide +kernel
theorem dX7_draw_53 : decode cX7_draw 53 = .ok (.aload_n 0, 1) := by decide +kernel
theorem dX7_draw_54 : decode cX7_draw 54 = .ok (.getfield 10, 3) := by decide +kernel
theorem dX7_draw_57 : decode cX7_draw 57 = .ok (.iload_n 1, 1) := by decide +kernel
theorem dX7_draw_58 : decode cX7_draw 58 = .ok (.iload_n 2, 1) := by decide +kernel
theorem dX7_draw_59 : decode cX7_draw 59 = .ok (.invokevirtual 197, 3) := by decide +kernel
theorem dX7_draw_62 : decode cX7_draw 62 = .ok (.aload_n 0, 1) := by decide +kernel
theorem dX7_draw_63 : decode cX7_draw 63 = .ok (.getfield 10, 3) := by decide +kernel
theorem dX7_draw_66 : decode cX7_draw 66 = .ok (.getfield 201, 3) := by decide +kernel
theorem dX7_draw_69 : decode cX7_draw 69 = .ok (.ireturn, 1) := by decide +kernel
theorem dX7_erase_0 : decode cX7_erase 0 = .ok (.aload_n 0, 1) := by decide +kernel
theorem dX7_erase_1 : decode cX7_erase 1 = .ok (.getfield 10, 3) := by decide +kernel
theorem dX7_erase_4 : decode cX7_erase 4 = .ok (.getfield 93, 3) := by decide +kernel
theorem dX7_erase_7 : decode cX7_erase 7 = .ok (.iload_n 1, 1) := by decide +kernel
theorem dX7_erase_8 : decode cX7_erase 8 = .ok (.invokevirtual 148, 3) := by decide +kernel
theorem dX7_erase_11 : decode cX7_erase 11 = .ok (.ifCond .ne 6, 3) := by decide +kernel
theorem dX7_erase_14 : decode cX7_erase 14 = .ok (.ldc 58, 2) := by decide +kernel
theorem dX7_erase_16 : decode cX7_erase 16 = .ok (.ireturn, 1) := by decide +kernel
theorem dX7_erase_17 : decode cX7_erase 17 = .ok (.aload_n 0, 1) := by decide +kernel
theorem dX7_erase_18 : decode cX7_erase 18 = .ok (.getfield 10, 3) := by decide +kernel
theorem dX7_erase_21 : decode cX7_erase 21 = .ok (.getfield 93, 3) := by decide +kernel
theorem dX7_erase_24 : decode cX7_erase 24 = .ok (.iload_n 1, 1) := by decide +kernel
theorem dX7_erase_25 : decode cX7_erase 25 = .ok (.invokevirtual 149, 3) := by decide +kernel
theorem dX7_erase_28 : decode cX7_erase 28 = .ok (.ifCond .ne 6, 3) := by decide +kernel
theorem dX7_erase_31 : decode cX7_erase 31 = .ok (.ldc 80, 2) := by decide +kernel
theorem dX7_erase_33 : decode cX7_erase 33 = .ok (.ireturn, 1) := by decide +kernel
theorem dX7_erase_34 : decode cX7_erase 34 = .ok (.aload_n 0, 1) := by decide +kernel
theorem dX7_erase_35 : decode cX7_erase 35 = .ok (.getfield 22, 3) := by decide +kernel
theorem dX7_erase_38 : decode cX7_erase 38 = .ok (.aload_n 0, 1) := by decide +kernel
theorem dX7_erase_39 : decode cX7_erase 39 = .ok (.getfield 10, 3) := by decide +kernel
theorem dX7_erase_42 : decode cX7_erase 42 = .ok (.invokevirtual 59, 3) := by decide +kernel
theorem dX7_erase_45 : decode cX7_erase 45 = .ok (.aload_n 0, 1) := by decide +kernel
theorem dX7_erase_46 : decode cX7_erase 46 = .ok (.getfield 10, 3) := by decide +kernel
theorem dX7_erase_49 : decode cX7_erase 49 = .ok (.getfield 93, 3) := by decide +kernel
theorem dX7_erase_52 : decode cX7_erase 52 = .ok (.getfield 168, 3) := by decide +kernel
theorem dX7_erase_55 : decode cX7_erase 55 = .ok (.iload_n 1, 1) := by decide +kernel
theorem dX7_erase_56 : decode cX7_erase 56 = .ok (.iaload, 1) := by decide +kernel
theorem dX7_erase_57 : decode cX7_erase 57 = .ok (.istore_n 2, 1) := by decide +kernel
theorem dX7_erase_58 : decode cX7_erase 58 = .ok (.aload_n 0, 1) := by decide +kernel
theorem dX7_erase_59 : decode cX7_erase 59 = .ok (.getfield 10, 3) := by decide +kernel
theorem dX7_erase_62 : decode cX7_erase 62 = .ok (.getfield 93, 3) := by decide +kernel
theorem dX7_erase_65 : decode cX7_erase 65 = .ok (.getfield 168, 3) := by decide +kernel
theorem dX7_erase_68 : decode cX7_erase 68 = .ok (.iload_n 1, 1) := by decide +kernel
theorem dX7_erase_69 : decode cX7_erase 69 = .ok (.iconst (-1), 1) := by decide +kernel
theorem dX7_erase_70 : decode cX7_erase 70 = .ok (.iastore, 1) := by decide +kernel
theorem dX7_erase_71 : decode cX7_erase 71 = .ok (.iload_n 2, 1) := by decide +kernel
theorem dX7_erase_72 : decode cX7_erase 72 = .ok (.ireturn, 1) := by decide +kernel
theorem dX7_waits_0 : decode cX7_waits 0 = .ok (.aload_n 0, 1) := by decide +kernel
theorem dX7_waits_1 : decode cX7_waits 1 = .ok (.getfield 10, 3) := by decide +kernel
theorem dX7_waits_4 : decode cX7_waits 4 = .ok (.iload_n 1, 1) := by decide +kernel
theorem dX7_waits_5 : decode cX7_waits 5 = .ok (.invokevirtual 204, 3) := by decide +kernel
theorem dX7_waits_8 : decode cX7_waits 8 = .ok (.istore_n 2, 1) := by decide +kernel
theorem dX7_waits_9 : decode cX7_waits 9 = .ok (.iload_n 2, 1) := by decide +kernel
theorem dX7_waits_10 : decode cX7_waits 10 = .ok (.ifCond .eq 5, 3) := by decide +kernel
theorem dX7_waits_13 : decode cX7_waits 13 = .ok (.iload_n 2, 1) := by decide +kernel
theorem dX7_waits_14 : decode cX7_waits 14 = .ok (.ireturn, 1) := by decide +kernel
theorem dX7_waits_15 : decode cX7_waits 15 = .ok (.aload_n 0, 1) := by decide +kernel
theorem dX7_waits_16 : decode cX7_waits 16 = .ok (.getfield 22, 3) := by decide +kernel
theorem dX7_waits_19 : decode cX7_waits 19 = .ok (.aload_n 0, 1) := by decide +kernel
theorem dX7_waits_20 : decode cX7_waits 20 = .ok (.getfield 10, 3) := by decide +kernel
theorem dX7_waits_23 : decode cX7_waits 23 = .ok (.invokevirtual 59, 3) := by decide +kernel
theorem dX7_waits_26 : decode cX7_waits 26 = .ok (.aload_n 0, 1) := by decide +kernel
theorem dX7_waits_27 : decode cX7_waits 27 = .ok (.getfield 10, 3) := by decide +kernel
theorem dX7_waits_30 : decode cX7_waits 30 = .ok (.iload_n 1, 1) := by decide +kernel
theorem dX7_waits_31 : decode cX7_waits 31 = .ok (.invokevirtual 207, 3) := by decide +kernel
theorem dX7_waits_34 : decode cX7_waits 34 = .ok (.aload_n 0, 1) := by decide +kernel
theorem dX7_waits_35 : decode cX7_waits 35 = .ok (.getfield 10, 3) := by decide +kernel
theorem dX7_waits_38 : decode cX7_waits 38 = .ok (.getfield 201, 3) := by decide +kernel
theorem dX7_waits_41 : decode cX7_waits 41 = .ok (.ireturn, 1) := by decide +kernel
theorem dX7_clean_0 : decode cX7_clean 0 = .ok (.aload_n 0, 1) := by decide +kernel
theorem dX7_clean_1 : decode cX7_clean 1 = .ok (.getfield 10, 3) := by decide +kernel
theorem dX7_clean_4 : decode cX7_clean 4 = .ok (.invokevirtual 211, 3) := by decide +kernel
theorem dX7_clean_7 : decode cX7_clean 7 = .ok (.istore_n 1, 1) := by decide +kernel
theorem dX7_clean_8 : decode cX7_clean 8 = .ok (.iload_n 1, 1) := by decide +kernel
theorem dX7_clean_9 : decode cX7_clean 9 = .ok (.ifCond .eq 5, 3) := by decide +kernel
theorem dX7_clean_12 : decode cX7_clean 12 = .ok (.iload_n 1, 1) := by decide +kernel
theorem dX7_clean_13 : decode cX7_clean 13 = .ok (.ireturn, 1) := by decide +kernel
theorem dX7_clean_14 : decode cX7_clean 14 = .ok (.aload_n 0, 1) := by decide +kernel
theorem dX7_clean_15 : decode cX7_clean 15 = .ok (.getfield 22, 3) := by decide +kernel
theorem dX7_clean_18 : decode cX7_clean 18 = .ok (.aload_n 0, 1) := by decide +kernel
theorem dX7_clean_19 : decode cX7_clean 19 = .ok (.getfield 10, 3) := by decide +kernel
theorem dX7_clean_22 : decode cX7_clean 22 = .ok (.invokevirtual 59, 3) := by decide +kernel
theorem dX7_clean_25 : decode cX7_clean 25 = .ok (.aload_n 0, 1) := by decide +kernel
theorem dX7_clean_26 : decode cX7_clean 26 = .ok (.getfield 10, 3) := by decide +kernel
theorem dX7_clean_29 : decode cX7_clean 29 = .ok (.invokevirtual 214, 3) := by decide +kernel
theorem dX7_clean_32 : decode cX7_clean 32 = .ok (.ireturn, 1) := by decide +kernel
theorem dX7_whyNot_0 : decode cX7_whyNot 0 = .ok (.aload_n 0, 1) := by decide +kernel
theorem dX7_whyNot_1 : decode cX7_whyNot 1 = .ok (.getfield 10, 3) := by decide +kernel
theorem dX7_whyNot_4 : decode cX7_whyNot 4 = .ok (.getfield 93, 3) := by decide +kernel
theorem dX7_whyNot_7 : decode cX7_whyNot 7 = .ok (.iload_n 1, 1) := by decide +kernel
theorem dX7_whyNot_8 : decode cX7_whyNot 8 = .ok (.invokevirtual 148, 3) := by decide +kernel
theorem dX7_whyNot_11 : decode cX7_whyNot 11 = .ok (.ifCond .eq 12, 3) := by decide +kernel
theorem dX7_whyNot_14 : decode cX7_whyNot 14 = .ok (.iload_n 2, 1) := by decide +kernel
theorem dX7_whyNot_15 : decode cX7_whyNot 15 = .ok (.iconst 0, 1) := by decide +kernel
theorem dX7_whyNot_16 : decode cX7_whyNot 16 = .ok (.iconst 1, 1) := by decide +kernel
theorem dX7_whyNot_17 : decode cX7_whyNot 17 = .ok (.invokestatic 47, 3) := by decide +kernel
theorem dX7_whyNot_20 : decode cX7_whyNot 20 = .ok (.ifCond .ne 6, 3) := by decide +kernel
theorem dX7_whyNot_23 : decode cX7_whyNot 23 = .ok (.ldc 58, 2) := by decide +kernel
theorem dX7_whyNot_25 : decode cX7_whyNot 25 = .ok (.ireturn, 1) := by decide +kernel
theorem dX7_whyNot_26 : decode cX7_whyNot 26 = .ok (.aload_n 0, 1) := by decide +kernel
theorem dX7_whyNot_27 : decode cX7_whyNot 27 = .ok (.getfield 10, 3) := by decide +kernel
theorem dX7_whyNot_30 : decode cX7_whyNot 30 = .ok (.iload_n 1, 1) := by decide +kernel
theorem dX7_whyNot_31 : decode cX7_whyNot 31 = .ok (.iload_n 2, 1) := by decide +kernel
theorem dX7_whyNot_32 : decode cX7_whyNot 32 = .ok (.iconst 0, 1) := by decide +kernel
theorem dX7_whyNot_33 : decode cX7_whyNot 33 = .ok (.invokevirtual 194, 3) := by decide +kernel
theorem dX7_whyNot_36 : decode cX7_whyNot 36 = .ok (.ireturn, 1) := by decide +kernel
theorem dX7_waitFor_0 : decode cX7_waitFor 0 = .ok (.aload_n 0, 1) := by decide +kernel
theorem dX7_waitFor_1 : decode cX7_waitFor 1 = .ok (.getfield 10, 3) := by decide +kernel
theorem dX7_waitFor_4 : decode cX7_waitFor 4 = .ok (.getfield 93, 3) := by decide +kernel
theorem dX7_waitFor_7 : decode cX7_waitFor 7 = .ok (.iload_n 1, 1) := by decide +kernel
theorem dX7_waitFor_8 : decode cX7_waitFor 8 = .ok (.invokevirtual 148, 3) := by decide +kernel
theorem dX7_waitFor_11 : decode cX7_waitFor 11 = .ok (.ifCond .eq 12, 3) := by decide +kernel
theorem dX7_waitFor_14 : decode cX7_waitFor 14 = .ok (.iload_n 2, 1) := by decide +kernel
theorem dX7_waitFor_15 : decode cX7_waitFor 15 = .ok (.iconst 0, 1) := by decide +kernel
theorem dX7_waitFor_16 : decode cX7_waitFor 16 = .ok (.iconst 1, 1) := by decide +kernel
theorem dX7_waitFor_17 : decode cX7_waitFor 17 = .ok (.invokestatic 47, 3) := by decide +kernel
theorem dX7_waitFor_20 : decode cX7_waitFor 20 = .ok (.ifCond .ne 6, 3) := by decide +kernel
theorem dX7_waitFor_23 : decode cX7_waitFor 23 = .ok (.ldc 58, 2) := by decide +kernel
theorem dX7_waitFor_25 : decode cX7_waitFor 25 = .ok (.ireturn, 1) := by decide +kernel
theorem dX7_waitFor_26 : decode cX7_waitFor 26 = .ok (.aload_n 0, 1) := by decide +kernel
theorem dX7_waitFor_27 : decode cX7_waitFor 27 = .ok (.getfield 10, 3) := by decide +kernel
theorem dX7_waitFor_30 : decode cX7_waitFor 30 = .ok (.getfield 201, 3) := by decide +kernel
theorem dX7_waitFor_33 : decode cX7_waitFor 33 = .ok (.aload_n 0, 1) := by decide +kernel
theorem dX7_waitFor_34 : decode cX7_waitFor 34 = .ok (.getfield 10, 3) := by decide +kernel
theorem dX7_waitFor_37 : decode cX7_waitFor 37 = .ok (.iload_n 1, 1) := by decide +kernel
theorem dX7_waitFor_38 : decode cX7_waitFor 38 = .ok (.iload_n 2, 1) := by decide +kernel
theorem dX7_waitFor_39 : decode cX7_waitFor 39 = .ok (.invokevirtual 217, 3) := by decide +kernel
theorem dX7_waitFor_42 : decode cX7_waitFor 42 = .ok (.iadd, 1) := by decide +kernel
theorem dX7_waitFor_43 : decode cX7_waitFor 43 = .ok (.istore_n 3, 1) := by decide +kernel
theorem dX7_waitFor_44 : decode cX7_waitFor 44 = .ok (.iconst 0, 1) := by decide +kernel
theorem dX7_waitFor_45 : decode cX7_waitFor 45 = .ok (.aload_n 0, 1) := by decide +kernel
theorem dX7_waitFor_46 : decode cX7_waitFor 46 = .ok (.getfield 10, 3) := by decide +kernel
theorem dX7_waitFor_49 : decode cX7_waitFor 49 = .ok (.iload_n 1, 1) := by decide +kernel
theorem dX7_waitFor_50 : decode cX7_waitFor 50 = .ok (.invokevirtual 221, 3) := by decide +kernel
theorem dX7_waitFor_53 : decode cX7_waitFor 53 = .ok (.iload_n 3, 1) := by decide +kernel
theorem dX7_waitFor_54 : decode cX7_waitFor 54 = .ok (.isub, 1) := by decide +kernel
theorem dX7_waitFor_55 : decode cX7_waitFor 55 = .ok (.invokestatic 224, 3) := by decide +kernel
theorem dX7_waitFor_58 : decode cX7_waitFor 58 = .ok (.istore 4, 2) := by decide +kernel
theorem dX7_waitFor_60 : decode cX7_waitFor 60 = .ok (.iload 4, 2) := by decide +kernel
theorem dX7_waitFor_62 : decode cX7_waitFor 62 = .ok (.sipush 200, 3) := by decide +kernel
theorem dX7_waitFor_65 : decode cX7_waitFor 65 = .ok (.if_icmp .gt 17, 3) := by decide +kernel
theorem dX7_waitFor_68 : decode cX7_waitFor 68 = .ok (.aload_n 0, 1) := by decide +kernel
theorem dX7_waitFor_69 : decode cX7_waitFor 69 = .ok (.getfield 10, 3) := by decide +kernel
theorem dX7_waitFor_72 : decode cX7_waitFor 72 = .ok (.iload_n 1, 1) := by decide +kernel
theorem dX7_waitFor_73 : decode cX7_waitFor 73 = .ok (.iload_n 2, 1) := by decide +kernel
theorem dX7_waitFor_74 : decode cX7_waitFor 74 = .ok (.iload 4, 2) := by decide +kernel
theorem dX7_waitFor_76 : decode cX7_waitFor 76 = .ok (.invokevirtual 194, 3) := by decide +kernel
theorem dX7_waitFor_79 : decode cX7_waitFor 79 = .ok (.ifCond .eq 6, 3) := by decide +kernel
theorem dX7_waitFor_82 : decode cX7_waitFor 82 = .ok (.ldc 152, 2) := by decide +kernel
theorem dX7_waitFor_84 : decode cX7_waitFor 84 = .ok (.ireturn, 1) := by decide +kernel
theorem dX7_waitFor_85 : decode cX7_waitFor 85 = .ok (.iload 4, 2) := by decide +kernel
theorem dX7_waitFor_87 : decode cX7_waitFor 87 = .ok (.ireturn, 1) := by decide +kernel
theorem dX7_strikers_0 : decode cX7_strikers 0 = .ok (.iconst 0, 1) := by decide +kernel
theorem dX7_strikers_1 : decode cX7_strikers 1 = .ok (.istore_n 1, 1) := by decide +kernel
theorem dX7_strikers_2 : decode cX7_strikers 2 = .ok (.iconst 0, 1) := by decide +kernel
theorem dX7_strikers_3 : decode cX7_strikers 3 = .ok (.istore_n 2, 1) := by decide +kernel
theorem dX7_strikers_4 : decode cX7_strikers 4 = .ok (.iload_n 2, 1) := by decide +kernel
theorem dX7_strikers_5 : decode cX7_strikers 5 = .ok (.aload_n 0, 1) := by decide +kernel
theorem dX7_strikers_6 : decode cX7_strikers 6 = .ok (.getfield 10, 3) := by decide +kernel
theorem dX7_strikers_9 : decode cX7_strikers 9 = .ok (.getfield 70, 3) := by decide +kernel
theorem dX7_strikers_12 : decode cX7_strikers 12 = .ok (.getfield 81, 3) := by decide +kernel
theorem dX7_strikers_15 : decode cX7_strikers 15 = .ok (.if_icmp .ge 26, 3) := by decide +kernel
theorem dX7_strikers_18 : decode cX7_strikers 18 = .ok (.aload_n 0, 1) := by decide +kernel
theorem dX7_strikers_19 : decode cX7_strikers 19 = .ok (.getfield 10, 3) := by decide +kernel
theorem dX7_strikers_22 : decode cX7_strikers 22 = .ok (.iload_n 2, 1) := by decide +kernel
theorem dX7_strikers_23 : decode cX7_strikers 23 = .ok (.invokevirtual 138, 3) := by decide +kernel
theorem dX7_strikers_26 : decode cX7_strikers 26 = .ok (.ifCond .eq 9, 3) := by decide +kernel
theorem dX7_strikers_29 : decode cX7_strikers 29 = .ok (.iload_n 1, 1) := by decide +kernel
theorem dX7_strikers_30 : decode cX7_strikers 30 = .ok (.iconst 1, 1) := by decide +kernel
theorem dX7_strikers_31 : decode cX7_strikers 31 = .ok (.iload_n 2, 1) := by decide +kernel
theorem dX7_strikers_32 : decode cX7_strikers 32 = .ok (.ishl, 1) := by decide +kernel
theorem dX7_strikers_33 : decode cX7_strikers 33 = .ok (.ior, 1) := by decide +kernel
theorem dX7_strikers_34 : decode cX7_strikers 34 = .ok (.istore_n 1, 1) := by decide +kernel
theorem dX7_strikers_35 : decode cX7_strikers 35 = .ok (.iinc 2 1, 3) := by decide +kernel
theorem dX7_strikers_38 : decode cX7_strikers 38 = .ok (.goto (-34), 3) := by decide +kernel
theorem dX7_strikers_41 : decode cX7_strikers 41 = .ok (.iload_n 1, 1) := by decide +kernel
theorem dX7_strikers_42 : decode cX7_strikers 42 = .ok (.ireturn, 1) := by decide +kernel
theorem dX7_room_0 : decode cX7_room 0 = .ok (.aload_n 0, 1) := by decide +kernel
theorem dX7_room_1 : decode cX7_room 1 = .ok (.getfield 10, 3) := by decide +kernel
theorem dX7_room_4 : decode cX7_room 4 = .ok (.getfield 70, 3) := by decide +kernel
theorem dX7_room_7 : decode cX7_room 7 = .ok (.iload_n 1, 1) := by decide +kernel
theorem dX7_room_8 : decode cX7_room 8 = .ok (.invokevirtual 103, 3) := by decide +kernel
theorem dX7_room_11 : decode cX7_room 11 = .ok (.ifCond .ne 6, 3) := by decide +kernel
theorem dX7_room_14 : decode cX7_room 14 = .ok (.ldc 58, 2) := by decide +kernel
theorem dX7_room_16 : decode cX7_room 16 = .ok (.ireturn, 1) := by decide +kernel
theorem dX7_room_17 : decode cX7_room 17 = .ok (.aload_n 0, 1) := by decide +kernel
theorem dX7_room_18 : decode cX7_room 18 = .ok (.getfield 10, 3) := by decide +kernel
theorem dX7_room_21 : decode cX7_room 21 = .ok (.getfield 70, 3) := by decide +kernel
theorem dX7_room_24 : decode cX7_room 24 = .ok (.iload_n 1, 1) := by decide +kernel
theorem dX7_room_25 : decode cX7_room 25 = .ok (.invokevirtual 229, 3) := by decide +kernel
theorem dX7_room_28 : decode cX7_room 28 = .ok (.ifCond .eq 6, 3) := by decide +kernel
theorem dX7_room_31 : decode cX7_room 31 = .ok (.ldc 80, 2) := by decide +kernel
theorem dX7_room_33 : decode cX7_room 33 = .ok (.ireturn, 1) := by decide +kernel
theorem dX7_room_34 : decode cX7_room 34 = .ok (.aload_n 0, 1) := by decide +kernel
theorem dX7_room_35 : decode cX7_room 35 = .ok (.getfield 10, 3) := by decide +kernel
theorem dX7_room_38 : decode cX7_room 38 = .ok (.getfield 70, 3) := by decide +kernel
theorem dX7_room_41 : decode cX7_room 41 = .ok (.iload_n 1, 1) := by decide +kernel
theorem dX7_room_42 : decode cX7_room 42 = .ok (.invokevirtual 232, 3) := by decide +kernel
theorem dX7_room_45 : decode cX7_room 45 = .ok (.istore_n 2, 1) := by decide +kernel
theorem dX7_room_46 : decode cX7_room 46 = .ok (.iload_n 2, 1) := by decide +kernel
theorem dX7_room_47 : decode cX7_room 47 = .ok (.iconst (-1), 1) := by decide +kernel
theorem dX7_room_48 : decode cX7_room 48 = .ok (.if_icmp .ne 6, 3) := by decide +kernel
theorem dX7_room_51 : decode cX7_room 51 = .ok (.ldc 152, 2) := by decide +kernel
theorem dX7_room_53 : decode cX7_room 53 = .ok (.ireturn, 1) := by decide +kernel
theorem dX7_room_54 : decode cX7_room 54 = .ok (.iload_n 2, 1) := by decide +kernel
theorem dX7_room_55 : decode cX7_room 55 = .ok (.aload_n 0, 1) := by decide +kernel
theorem dX7_room_56 : decode cX7_room 56 = .ok (.getfield 10, 3) := by decide +kernel
theorem dX7_room_59 : decode cX7_room 59 = .ok (.getfield 63, 3) := by decide +kernel
theorem dX7_room_62 : decode cX7_room 62 = .ok (.iconst 0, 1) := by decide +kernel
theorem dX7_room_63 : decode cX7_room 63 = .ok (.iaload, 1) := by decide +kernel
theorem dX7_room_64 : decode cX7_room 64 = .ok (.iadd, 1) := by decide +kernel
theorem dX7_room_65 : decode cX7_room 65 = .ok (.aload_n 0, 1) := by decide +kernel
theorem dX7_room_66 : decode cX7_room 66 = .ok (.getfield 10, 3) := by decide +kernel
theorem dX7_room_69 : decode cX7_room 69 = .ok (.getfield 70, 3) := by decide +kernel
theorem dX7_room_72 : decode cX7_room 72 = .ok (.getfield 125, 3) := by decide +kernel
theorem dX7_room_75 : decode cX7_room 75 = .ok (.iload_n 1, 1) := by decide +kernel
theorem dX7_room_76 : decode cX7_room 76 = .ok (.iaload, 1) := by decide +kernel
theorem dX7_room_77 : decode cX7_room 77 = .ok (.isub, 1) := by decide +kernel
theorem dX7_room_78 : decode cX7_room 78 = .ok (.ireturn, 1) := by decide +kernel
theorem dX7_spread_0 : decode cX7_spread 0 = .ok (.aload_n 0, 1) := by decide +kernel
theorem dX7_spread_1 : decode cX7_spread 1 = .ok (.getfield 10, 3) := by decide +kernel
theorem dX7_spread_4 : decode cX7_spread 4 = .ok (.getfield 70, 3) := by decide +kernel
theorem dX7_spread_7 : decode cX7_spread 7 = .ok (.aload_n 0, 1) := by decide +kernel
theorem dX7_spread_8 : decode cX7_spread 8 = .ok (.getfield 10, 3) := by decide +kernel
theorem dX7_spread_11 : decode cX7_spread 11 = .ok (.getfield 70, 3) := by decide +kernel
theorem dX7_spread_14 : decode cX7_spread 14 = .ok (.getfield 125, 3) := by decide +kernel
theorem dX7_spread_17 : decode cX7_spread 17 = .ok (.invokevirtual 235, 3) := by decide +kernel
theorem dX7_spread_20 : decode cX7_spread 20 = .ok (.ireturn, 1) := by decide +kernel
theorem dX7_touch_0 : decode cX7_touch 0 = .ok (.aload_n 0, 1) := by decide +kernel
theorem dX7_touch_1 : decode cX7_touch 1 = .ok (.getfield 10, 3) := by decide +kernel
theorem dX7_touch_4 : decode cX7_touch 4 = .ok (.getfield 93, 3) := by decide +kernel
theorem dX7_touch_7 : decode cX7_touch 7 = .ok (.iload_n 1, 1) := by decide +kernel
theorem dX7_touch_8 : decode cX7_touch 8 = .ok (.invokevirtual 148, 3) := by decide +kernel
theorem dX7_touch_11 : decode cX7_touch 11 = .ok (.ifCond .eq 17, 3) := by decide +kernel
theorem dX7_touch_14 : decode cX7_touch 14 = .ok (.aload_n 0, 1) := by decide +kernel
theorem dX7_touch_15 : decode cX7_touch 15 = .ok (.getfield 10, 3) := by decide +kernel
theorem dX7_touch_18 : decode cX7_touch 18 = .ok (.getfield 93, 3) := by decide +kernel
theorem dX7_touch_21 : decode cX7_touch 21 = .ok (.iload_n 2, 1) := by decide +kernel
theorem dX7_touch_22 : decode cX7_touch 22 = .ok (.invokevirtual 148, 3) := by decide +kernel
theorem dX7_touch_25 : decode cX7_touch 25 = .ok (.ifCond .ne 6, 3) := by decide +kernel
theorem dX7_touch_28 : decode cX7_touch 28 = .ok (.ldc 58, 2) := by decide +kernel
theorem dX7_touch_30 : decode cX7_touch 30 = .ok (.ireturn, 1) := by decide +kernel
theorem dX7_touch_31 : decode cX7_touch 31 = .ok (.iload_n 1, 1) := by decide +kernel
theorem dX7_touch_32 : decode cX7_touch 32 = .ok (.iload_n 2, 1) := by decide +kernel
theorem dX7_touch_33 : decode cX7_touch 33 = .ok (.if_icmp .eq 18, 3) := by decide +kernel
theorem dX7_touch_36 : decode cX7_touch 36 = .ok (.aload_n 0, 1) := by decide +kernel
theorem dX7_touch_37 : decode cX7_touch 37 = .ok (.getfield 10, 3) := by decide +kernel
theorem dX7_touch_40 : decode cX7_touch 40 = .ok (.getfield 93, 3) := by decide +kernel
theorem dX7_touch_43 : decode cX7_touch 43 = .ok (.iload_n 1, 1) := by decide +kernel
theorem dX7_touch_44 : decode cX7_touch 44 = .ok (.iload_n 2, 1) := by decide +kernel
theorem dX7_touch_45 : decode cX7_touch 45 = .ok (.invokevirtual 239, 3) := by decide +kernel
theorem dX7_touch_48 : decode cX7_touch 48 = .ok (.ifCond .eq 7, 3) := by decide +kernel
theorem dX7_touch_51 : decode cX7_touch 51 = .ok (.iconst 1, 1) := by decide +kernel
theorem dX7_touch_52 : decode cX7_touch 52 = .ok (.goto 4, 3) := by decide +kernel
theorem dX7_touch_55 : decode cX7_touch 55 = .ok (.iconst 0, 1) := by decide +kernel
theorem dX7_touch_56 : decode cX7_touch 56 = .ok (.invokestatic 134, 3) := by decide +kernel
theorem dX7_touch_59 : decode cX7_touch 59 = .ok (.ireturn, 1) := by decide +kernel
theorem dX7_touching_0 : decode cX7_touching 0 = .ok (.aload_n 0, 1) := by decide +kernel
theorem dX7_touching_1 : decode cX7_touching 1 = .ok (.getfield 10, 3) := by decide +kernel
theorem dX7_touching_4 : decode cX7_touching 4 = .ok (.getfield 93, 3) := by decide +kernel
theorem dX7_touching_7 : decode cX7_touching 7 = .ok (.iload_n 1, 1) := by decide +kernel
theorem dX7_touching_8 : decode cX7_touching 8 = .ok (.invokevirtual 148, 3) := by decide +kernel
theorem dX7_touching_11 : decode cX7_touching 11 = .ok (.ifCond .ne 6, 3) := by decide +kernel
theorem dX7_touching_14 : decode cX7_touching 14 = .ok (.ldc 58, 2) := by decide +kernel
theorem dX7_touching_16 : decode cX7_touching 16 = .ok (.ireturn, 1) := by decide +kernel
theorem dX7_touching_17 : decode cX7_touching 17 = .ok (.aload_n 0, 1) := by decide +kernel
theorem dX7_touching_18 : decode cX7_touching 18 = .ok (.getfield 10, 3) := by decide +kernel
theorem dX7_touching_21 : decode cX7_touching 21 = .ok (.getfield 93, 3) := by decide +kernel
theorem dX7_touching_24 : decode cX7_touching 24 = .ok (.getfield 242, 3) := by decide +kernel
theorem dX7_touching_27 : decode cX7_touching 27 = .ok (.iload_n 1, 1) := by decide +kernel
theorem dX7_touching_28 : decode cX7_touching 28 = .ok (.iaload, 1) := by decide +kernel
theorem dX7_touching_29 : decode cX7_touching 29 = .ok (.ireturn, 1) := by decide +kernel
theorem dX7_seams_0 : decode cX7_seams 0 = .ok (.iconst 0, 1) := by decide +kernel
theorem dX7_seams_1 : decode cX7_seams 1 = .ok (.istore_n 1, 1) := by decide +kernel
theorem dX7_seams_2 : decode cX7_seams 2 = .ok (.iconst 0, 1) := by decide +kernel
theorem dX7_seams_3 : decode cX7_seams 3 = .ok (.istore_n 2, 1) := by decide +kernel
theorem dX7_seams_4 : decode cX7_seams 4 = .ok (.iload_n 2, 1) := by decide +kernel
theorem dX7_seams_5 : decode cX7_seams 5 = .ok (.aload_n 0, 1) := by decide +kernel
theorem dX7_seams_6 : decode cX7_seams 6 = .ok (.getfield 10, 3) := by decide +kernel
theorem dX7_seams_9 : decode cX7_seams 9 = .ok (.getfield 93, 3) := by decide +kernel
theorem dX7_seams_12 : decode cX7_seams 12 = .ok (.getfield 97, 3) := by decide +kernel
theorem dX7_seams_15 : decode cX7_seams 15 = .ok (.if_icmp .ge 23, 3) := by decide +kernel
theorem dX7_seams_18 : decode cX7_seams 18 = .ok (.iload_n 1, 1) := by decide +kernel
theorem dX7_seams_19 : decode cX7_seams 19 = .ok (.aload_n 0, 1) := by decide +kernel
theorem dX7_seams_20 : decode cX7_seams 20 = .ok (.getfield 10, 3) := by decide +kernel
theorem dX7_seams_23 : decode cX7_seams 23 = .ok (.getfield 93, 3) := by decide +kernel
theorem dX7_seams_26 : decode cX7_seams 26 = .ok (.iload_n 2, 1) := by decide +kernel
theorem dX7_seams_27 : decode cX7_seams 27 = .ok (.invokevirtual 245, 3) := by decide +kernel
theorem dX7_seams_30 : decode cX7_seams 30 = .ok (.iadd, 1) := by decide +kernel
theorem dX7_seams_31 : decode cX7_seams 31 = .ok (.istore_n 1, 1) := by decide +kernel
theorem dX7_seams_32 : decode cX7_seams 32 = .ok (.iinc 2 1, 3) := by decide +kernel
theorem dX7_seams_35 : decode cX7_seams 35 = .ok (.goto (-31), 3) := by decide +kernel
theorem dX7_seams_38 : decode cX7_seams 38 = .ok (.iload_n 1, 1) := by decide +kernel
theorem dX7_seams_39 : decode cX7_seams 39 = .ok (.ireturn, 1) := by decide +kernel
theorem dX7_seamsBy_0 : decode cX7_seamsBy 0 = .ok (.aload_n 0, 1) := by decide +kernel
theorem dX7_seamsBy_1 : decode cX7_seamsBy 1 = .ok (.getfield 10, 3) := by decide +kernel
theorem dX7_seamsBy_4 : decode cX7_seamsBy 4 = .ok (.getfield 93, 3) := by decide +kernel
theorem dX7_seamsBy_7 : decode cX7_seamsBy 7 = .ok (.iload_n 1, 1) := by decide +kernel
theorem dX7_seamsBy_8 : decode cX7_seamsBy 8 = .ok (.invokevirtual 148, 3) := by decide +kernel
theorem dX7_seamsBy_11 : decode cX7_seamsBy 11 = .ok (.ifCond .eq 17, 3) := by decide +kernel
theorem dX7_seamsBy_14 : decode cX7_seamsBy 14 = .ok (.aload_n 0, 1) := by decide +kernel
theorem dX7_seamsBy_15 : decode cX7_seamsBy 15 = .ok (.getfield 10, 3) := by decide +kernel
theorem dX7_seamsBy_18 : decode cX7_seamsBy 18 = .ok (.getfield 70, 3) := by decide +kernel
theorem dX7_seamsBy_21 : decode cX7_seamsBy 21 = .ok (.iload_n 2, 1) := by decide +kernel
theorem dX7_seamsBy_22 : decode cX7_seamsBy 22 = .ok (.invokevirtual 103, 3) := by decide +kernel
theorem dX7_seamsBy_25 : decode cX7_seamsBy 25 = .ok (.ifCond .ne 6, 3) := by decide +kernel
theorem dX7_seamsBy_28 : decode cX7_seamsBy 28 = .ok (.ldc 58, 2) := by decide +kernel
theorem dX7_seamsBy_30 : decode cX7_seamsBy 30 = .ok (.ireturn, 1) := by decide +kernel
theorem dX7_seamsBy_31 : decode cX7_seamsBy 31 = .ok (.aload_n 0, 1) := by decide +kernel
theorem dX7_seamsBy_32 : decode cX7_seamsBy 32 = .ok (.getfield 10, 3) := by decide +kernel
theorem dX7_seamsBy_35 : decode cX7_seamsBy 35 = .ok (.getfield 93, 3) := by decide +kernel
theorem dX7_seamsBy_38 : decode cX7_seamsBy 38 = .ok (.iload_n 1, 1) := by decide +kernel
theorem dX7_seamsBy_39 : decode cX7_seamsBy 39 = .ok (.invokevirtual 149, 3) := by decide +kernel
theorem dX7_seamsBy_42 : decode cX7_seamsBy 42 = .ok (.ifCond .eq 6, 3) := by decide +kernel
theorem dX7_seamsBy_45 : decode cX7_seamsBy 45 = .ok (.ldc 80, 2) := by decide +kernel
theorem dX7_seamsBy_47 : decode cX7_seamsBy 47 = .ok (.ireturn, 1) := by decide +kernel
theorem dX7_seamsBy_48 : decode cX7_seamsBy 48 = .ok (.aload_n 0, 1) := by decide +kernel
theorem dX7_seamsBy_49 : decode cX7_seamsBy 49 = .ok (.getfield 10, 3) := by decide +kernel
theorem dX7_seamsBy_52 : decode cX7_seamsBy 52 = .ok (.getfield 93, 3) := by decide +kernel
theorem dX7_seamsBy_55 : decode cX7_seamsBy 55 = .ok (.aload_n 0, 1) := by decide +kernel
theorem dX7_seamsBy_56 : decode cX7_seamsBy 56 = .ok (.getfield 10, 3) := by decide +kernel
theorem dX7_seamsBy_59 : decode cX7_seamsBy 59 = .ok (.getfield 93, 3) := by decide +kernel
theorem dX7_seamsBy_62 : decode cX7_seamsBy 62 = .ok (.getfield 153, 3) := by decide +kernel
theorem dX7_seamsBy_65 : decode cX7_seamsBy 65 = .ok (.iload_n 1, 1) := by decide +kernel
theorem dX7_seamsBy_66 : decode cX7_seamsBy 66 = .ok (.iaload, 1) := by decide +kernel
theorem dX7_seamsBy_67 : decode cX7_seamsBy 67 = .ok (.aload_n 0, 1) := by decide +kernel
theorem dX7_seamsBy_68 : decode cX7_seamsBy 68 = .ok (.getfield 10, 3) := by decide +kernel
theorem dX7_seamsBy_71 : decode cX7_seamsBy 71 = .ok (.getfield 93, 3) := by decide +kernel
theorem dX7_seamsBy_74 : decode cX7_seamsBy 74 = .ok (.getfield 156, 3) := by decide +kernel
theorem dX7_seamsBy_77 : decode cX7_seamsBy 77 = .ok (.iload_n 1, 1) := by decide +kernel
theorem dX7_seamsBy_78 : decode cX7_seamsBy 78 = .ok (.iaload, 1) := by decide +kernel
theorem dX7_seamsBy_79 : decode cX7_seamsBy 79 = .ok (.iload_n 2, 1) := by decide +kernel
theorem dX7_seamsBy_80 : decode cX7_seamsBy 80 = .ok (.invokevirtual 248, 3) := by decide +kernel
theorem dX7_seamsBy_83 : decode cX7_seamsBy 83 = .ok (.invokestatic 134, 3) := by decide +kernel
theorem dX7_seamsBy_86 : decode cX7_seamsBy 86 = .ok (.aload_n 0, 1) := by decide +kernel
theorem dX7_seamsBy_87 : decode cX7_seamsBy 87 = .ok (.getfield 10, 3) := by decide +kernel
theorem dX7_seamsBy_90 : decode cX7_seamsBy 90 = .ok (.getfield 93, 3) := by decide +kernel
theorem dX7_seamsBy_93 : decode cX7_seamsBy 93 = .ok (.aload_n 0, 1) := by decide +kernel
theorem dX7_seamsBy_94 : decode cX7_seamsBy 94 = .ok (.getfield 10, 3) := by decide +kernel
theorem dX7_seamsBy_97 : decode cX7_seamsBy 97 = .ok (.getfield 93, 3) := by decide +kernel
theorem dX7_seamsBy_100 : decode cX7_seamsBy 100 = .ok (.getfield 159, 3) := by decide +kernel
theorem dX7_seamsBy_103 : decode cX7_seamsBy 103 = .ok (.iload_n 1, 1) := by decide +kernel
theorem dX7_seamsBy_104 : decode cX7_seamsBy 104 = .ok (.iaload, 1) := by decide +kernel
theorem dX7_seamsBy_105 : decode cX7_seamsBy 105 = .ok (.aload_n 0, 1) := by decide +kernel
theorem dX7_seamsBy_106 : decode cX7_seamsBy 106 = .ok (.getfield 10, 3) := by decide +kernel
theorem dX7_seamsBy_109 : decode cX7_seamsBy 109 = .ok (.getfield 93, 3) := by decide +kernel
theorem dX7_seamsBy_112 : decode cX7_seamsBy 112 = .ok (.getfield 162, 3) := by decide +kernel
theorem dX7_seamsBy_115 : decode cX7_seamsBy 115 = .ok (.iload_n 1, 1) := by decide +kernel
theorem dX7_seamsBy_116 : decode cX7_seamsBy 116 = .ok (.iaload, 1) := by decide +kernel
theorem dX7_seamsBy_117 : decode cX7_seamsBy 117 = .ok (.iload_n 2, 1) := by decide +kernel
theorem dX7_seamsBy_118 : decode cX7_seamsBy 118 = .ok (.invokevirtual 248, 3) := by decide +kernel
theorem dX7_seamsBy_121 : decode cX7_seamsBy 121 = .ok (.invokestatic 134, 3) := by decide +kernel
theorem dX7_seamsBy_124 : decode cX7_seamsBy 124 = .ok (.iadd, 1) := by decide +kernel
theorem dX7_seamsBy_125 : decode cX7_seamsBy 125 = .ok (.ireturn, 1) := by decide +kernel
theorem dX7_meanShade_0 : decode cX7_meanShade 0 = .ok (.dconst 0, 1) := by decide +kernel
theorem dX7_meanShade_1 : decode cX7_meanShade 1 = .ok (.dstore_n 1, 1) := by decide +kernel
theorem dX7_meanShade_2 : decode cX7_meanShade 2 = .ok (.iconst 0, 1) := by decide +kernel
theorem dX7_meanShade_3 : decode cX7_meanShade 3 = .ok (.istore_n 3, 1) := by decide +kernel
theorem dX7_meanShade_4 : decode cX7_meanShade 4 = .ok (.iconst 0, 1) := by decide +kernel
theorem dX7_meanShade_5 : decode cX7_meanShade 5 = .ok (.istore 4, 2) := by decide +kernel
theorem dX7_meanShade_7 : decode cX7_meanShade 7 = .ok (.iload 4, 2) := by decide +kernel
theorem dX7_meanShade_9 : decode cX7_meanShade 9 = .ok (.aload_n 0, 1) := by decide +kernel
theorem dX7_meanShade_10 : decode cX7_meanShade 10 = .ok (.getfield 10, 3) := by decide +kernel
theorem dX7_meanShade_13 : decode cX7_meanShade 13 = .ok (.getfield 93, 3) := by decide +kernel
theorem dX7_meanShade_16 : decode cX7_meanShade 16 = .ok (.getfield 97, 3) := by decide +kernel
theorem dX7_meanShade_19 : decode cX7_meanShade 19 = .ok (.if_icmp .ge 40, 3) := by decide +kernel
theorem dX7_meanShade_22 : decode cX7_meanShade 22 = .ok (.aload_n 0, 1) := by decide +kernel
theorem dX7_meanShade_23 : decode cX7_meanShade 23 = .ok (.getfield 10, 3) := by decide +kernel
theorem dX7_meanShade_26 : decode cX7_meanShade 26 = .ok (.getfield 93, 3) := by decide +kernel
theorem dX7_meanShade_29 : decode cX7_meanShade 29 = .ok (.iload 4, 2) := by decide +kernel
theorem dX7_meanShade_31 : decode cX7_meanShade 31 = .ok (.invokevirtual 149, 3) := by decide +kernel
theorem dX7_meanShade_34 : decode cX7_meanShade 34 = .ok (.ifCond .eq 19, 3) := by decide +kernel
theorem dX7_meanShade_37 : decode cX7_meanShade 37 = .ok (.dload_n 1, 1) := by decide +kernel
theorem dX7_meanShade_38 : decode cX7_meanShade 38 = .ok (.aload_n 0, 1) := by decide +kernel
theorem dX7_meanShade_39 : decode cX7_meanShade 39 = .ok (.getfield 10, 3) := by decide +kernel
theorem dX7_meanShade_42 : decode cX7_meanShade 42 = .ok (.iload 4, 2) := by decide +kernel
theorem dX7_meanShade_44 : decode cX7_meanShade 44 = .ok (.invokevirtual 177, 3) := by decide +kernel
theorem dX7_meanShade_47 : decode cX7_meanShade 47 = .ok (.f2d, 1) := by decide +kernel
theorem dX7_meanShade_48 : decode cX7_meanShade 48 = .ok (.dadd, 1) := by decide +kernel
theorem dX7_meanShade_49 : decode cX7_meanShade 49 = .ok (.dstore_n 1, 1) := by decide +kernel
theorem dX7_meanShade_50 : decode cX7_meanShade 50 = .ok (.iinc 3 1, 3) := by decide +kernel
theorem dX7_meanShade_53 : decode cX7_meanShade 53 = .ok (.iinc 4 1, 3) := by decide +kernel
theorem dX7_meanShade_56 : decode cX7_meanShade 56 = .ok (.goto (-49), 3) := by decide +kernel
theorem dX7_meanShade_59 : decode cX7_meanShade 59 = .ok (.iload_n 3, 1) := by decide +kernel
theorem dX7_meanShade_60 : decode cX7_meanShade 60 = .ok (.ifCond .ne 6, 3) := by decide +kernel
theorem dX7_meanShade_63 : decode cX7_meanShade 63 = .ok (.ldc 152, 2) := by decide +kernel
theorem dX7_meanShade_65 : decode cX7_meanShade 65 = .ok (.ireturn, 1) := by decide +kernel
theorem dX7_meanShade_66 : decode cX7_meanShade 66 = .ok (.dload_n 1, 1) := by decide +kernel
theorem dX7_meanShade_67 : decode cX7_meanShade 67 = .ok (.iload_n 3, 1) := by decide +kernel
theorem dX7_meanShade_68 : decode cX7_meanShade 68 = .ok (.i2d, 1) := by decide +kernel
theorem dX7_meanShade_69 : decode cX7_meanShade 69 = .ok (.ddiv, 1) := by decide +kernel
theorem dX7_meanShade_70 : decode cX7_meanShade 70 = .ok (.d2f, 1) := by decide +kernel
theorem dX7_meanShade_71 : decode cX7_meanShade 71 = .ok (.invokestatic 181, 3) := by decide +kernel
theorem dX7_meanShade_74 : decode cX7_meanShade 74 = .ok (.ireturn, 1) := by decide +kernel
theorem dX7_fair_0 : decode cX7_fair 0 = .ok (.aload_n 0, 1) := by decide +kernel
theorem dX7_fair_1 : decode cX7_fair 1 = .ok (.getfield 10, 3) := by decide +kernel
theorem dX7_fair_4 : decode cX7_fair 4 = .ok (.getfield 93, 3) := by decide +kernel
theorem dX7_fair_7 : decode cX7_fair 7 = .ok (.iload_n 1, 1) := by decide +kernel
theorem dX7_fair_8 : decode cX7_fair 8 = .ok (.invokevirtual 148, 3) := by decide +kernel
theorem dX7_fair_11 : decode cX7_fair 11 = .ok (.ifCond .ne 6, 3) := by decide +kernel
theorem dX7_fair_14 : decode cX7_fair 14 = .ok (.ldc 58, 2) := by decide +kernel
theorem dX7_fair_16 : decode cX7_fair 16 = .ok (.ireturn, 1) := by decide +kernel
theorem dX7_fair_17 : decode cX7_fair 17 = .ok (.aload_n 0, 1) := by decide +kernel
theorem dX7_fair_18 : decode cX7_fair 18 = .ok (.getfield 10, 3) := by decide +kernel
theorem dX7_fair_21 : decode cX7_fair 21 = .ok (.getfield 93, 3) := by decide +kernel
theorem dX7_fair_24 : decode cX7_fair 24 = .ok (.iload_n 1, 1) := by decide +kernel
theorem dX7_fair_25 : decode cX7_fair 25 = .ok (.invokevirtual 149, 3) := by decide +kernel
theorem dX7_fair_28 : decode cX7_fair 28 = .ok (.ifCond .eq 6, 3) := by decide +kernel
theorem dX7_fair_31 : decode cX7_fair 31 = .ok (.ldc 80, 2) := by decide +kernel
theorem dX7_fair_33 : decode cX7_fair 33 = .ok (.ireturn, 1) := by decide +kernel
theorem dX7_fair_34 : decode cX7_fair 34 = .ok (.aload_n 0, 1) := by decide +kernel
theorem dX7_fair_35 : decode cX7_fair 35 = .ok (.getfield 36, 3) := by decide +kernel
theorem dX7_fair_38 : decode cX7_fair 38 = .ok (.aload_n 0, 1) := by decide +kernel
theorem dX7_fair_39 : decode cX7_fair 39 = .ok (.getfield 10, 3) := by decide +kernel
theorem dX7_fair_42 : decode cX7_fair 42 = .ok (.getfield 70, 3) := by decide +kernel
theorem dX7_fair_45 : decode cX7_fair 45 = .ok (.aload_n 0, 1) := by decide +kernel
theorem dX7_fair_46 : decode cX7_fair 46 = .ok (.getfield 10, 3) := by decide +kernel
theorem dX7_fair_49 : decode cX7_fair 49 = .ok (.getfield 93, 3) := by decide +kernel
theorem dX7_fair_52 : decode cX7_fair 52 = .ok (.invokevirtual 251, 3) := by decide +kernel
theorem dX7_fair_55 : decode cX7_fair 55 = .ok (.aload_n 0, 1) := by decide +kernel
theorem dX7_fair_56 : decode cX7_fair 56 = .ok (.getfield 36, 3) := by decide +kernel
theorem dX7_fair_59 : decode cX7_fair 59 = .ok (.getfield 255, 3) := by decide +kernel
theorem dX7_fair_62 : decode cX7_fair 62 = .ok (.iload_n 1, 1) := by decide +kernel
theorem dX7_fair_63 : decode cX7_fair 63 = .ok (.iaload, 1) := by decide +kernel
theorem dX7_fair_64 : decode cX7_fair 64 = .ok (.istore_n 2, 1) := by decide +kernel
theorem dX7_fair_65 : decode cX7_fair 65 = .ok (.iload_n 2, 1) := by decide +kernel
theorem dX7_fair_66 : decode cX7_fair 66 = .ok (.iconst (-1), 1) := by decide +kernel
theorem dX7_fair_67 : decode cX7_fair 67 = .ok (.if_icmp .ne 8, 3) := by decide +kernel
theorem dX7_fair_70 : decode cX7_fair 70 = .ok (.ldc 152, 2) := by decide +kernel
theorem dX7_fair_72 : decode cX7_fair 72 = .ok (.goto 4, 3) := by decide +kernel
theorem dX7_fair_75 : decode cX7_fair 75 = .ok (.iload_n 2, 1) := by decide +kernel
theorem dX7_fair_76 : decode cX7_fair 76 = .ok (.ireturn, 1) := by decide +kernel
theorem dX7_fairSpread_0 : decode cX7_fairSpread 0 = .ok (.aload_n 0, 1) := by decide +kernel
theorem dX7_fairSpread_1 : decode cX7_fairSpread 1 = .ok (.getfield 36, 3) := by decide +kernel
theorem dX7_fairSpread_4 : decode cX7_fairSpread 4 = .ok (.aload_n 0, 1) := by decide +kernel
theorem dX7_fairSpread_5 : decode cX7_fairSpread 5 = .ok (.getfield 10, 3) := by decide +kernel
theorem dX7_fairSpread_8 : decode cX7_fairSpread 8 = .ok (.getfield 70, 3) := by decide +kernel
theorem dX7_fairSpread_11 : decode cX7_fairSpread 11 = .ok (.aload_n 0, 1) := by decide +kernel
theorem dX7_fairSpread_12 : decode cX7_fairSpread 12 = .ok (.getfield 10, 3) := by decide +kernel
theorem dX7_fairSpread_15 : decode cX7_fairSpread 15 = .ok (.getfield 93, 3) := by decide +kernel
theorem dX7_fairSpread_18 : decode cX7_fairSpread 18 = .ok (.invokevirtual 251, 3) := by decide +kernel
theorem dX7_fairSpread_21 : decode cX7_fairSpread 21 = .ok (.aload_n 0, 1) := by decide +kernel
theorem dX7_fairSpread_22 : decode cX7_fairSpread 22 = .ok (.getfield 10, 3) := by decide +kernel
theorem dX7_fairSpread_25 : decode cX7_fairSpread 25 = .ok (.getfield 70, 3) := by decide +kernel
theorem dX7_fairSpread_28 : decode cX7_fairSpread 28 = .ok (.aload_n 0, 1) := by decide +kernel
theorem dX7_fairSpread_29 : decode cX7_fairSpread 29 = .ok (.getfield 36, 3) := by decide +kernel
theorem dX7_fairSpread_32 : decode cX7_fairSpread 32 = .ok (.getfield 258, 3) := by decide +kernel
theorem dX7_fairSpread_35 : decode cX7_fairSpread 35 = .ok (.invokevirtual 235, 3) := by decide +kernel
theorem dX7_fairSpread_38 : decode cX7_fairSpread 38 = .ok (.ireturn, 1) := by decide +kernel
theorem dX7_tour_0 : decode cX7_tour 0 = .ok (.iload_n 1, 1) := by decide +kernel
theorem dX7_tour_1 : decode cX7_tour 1 = .ok (.ifCond .lt 12, 3) := by decide +kernel
theorem dX7_tour_4 : decode cX7_tour 4 = .ok (.iload_n 2, 1) := by decide +kernel
theorem dX7_tour_5 : decode cX7_tour 5 = .ok (.iconst 0, 1) := by decide +kernel
theorem dX7_tour_6 : decode cX7_tour 6 = .ok (.iconst 2, 1) := by decide +kernel
theorem dX7_tour_7 : decode cX7_tour 7 = .ok (.invokestatic 47, 3) := by decide +kernel
theorem dX7_tour_10 : decode cX7_tour 10 = .ok (.ifCond .ne 6, 3) := by decide +kernel
theorem dX7_tour_13 : decode cX7_tour 13 = .ok (.ldc 58, 2) := by decide +kernel
theorem dX7_tour_15 : decode cX7_tour 15 = .ok (.ireturn, 1) := by decide +kernel
theorem dX7_tour_16 : decode cX7_tour 16 = .ok (.aload_n 0, 1) := by decide +kernel
theorem dX7_tour_17 : decode cX7_tour 17 = .ok (.getfield 10, 3) := by decide +kernel
theorem dX7_tour_20 : decode cX7_tour 20 = .ok (.getfield 109, 3) := by decide +kernel
theorem dX7_tour_23 : decode cX7_tour 23 = .ok (.iconst (-1), 1) := by decide +kernel
theorem dX7_tour_24 : decode cX7_tour 24 = .ok (.if_icmp .ne 6, 3) := by decide +kernel
theorem dX7_tour_27 : decode cX7_tour 27 = .ok (.ldc 80, 2) := by decide +kernel
theorem dX7_tour_29 : decode cX7_tour 29 = .ok (.ireturn, 1) := by decide +kernel
theorem dX7_tour_30 : decode cX7_tour 30 = .ok (.aload_n 0, 1) := by decide +kernel
theorem dX7_tour_31 : decode cX7_tour 31 = .ok (.getfield 36, 3) := by decide +kernel
theorem dX7_tour_34 : decode cX7_tour 34 = .ok (.aload_n 0, 1) := by decide +kernel
theorem dX7_tour_35 : decode cX7_tour 35 = .ok (.getfield 10, 3) := by decide +kernel
theorem dX7_tour_38 : decode cX7_tour 38 = .ok (.getfield 70, 3) := by decide +kernel
theorem dX7_tour_41 : decode cX7_tour 41 = .ok (.aload_n 0, 1) := by decide +kernel
theorem dX7_tour_42 : decode cX7_tour 42 = .ok (.getfield 10, 3) := by decide +kernel
theorem dX7_tour_45 : decode cX7_tour 45 = .ok (.getfield 93, 3) := by decide +kernel
theorem dX7_tour_48 : decode cX7_tour 48 = .ok (.invokevirtual 251, 3) := by decide +kernel
theorem dX7_tour_51 : decode cX7_tour 51 = .ok (.aload_n 0, 1) := by decide +kernel
theorem dX7_tour_52 : decode cX7_tour 52 = .ok (.getfield 43, 3) := by decide +kernel
theorem dX7_tour_55 : decode cX7_tour 55 = .ok (.aload_n 0, 1) := by decide +kernel
theorem dX7_tour_56 : decode cX7_tour 56 = .ok (.getfield 10, 3) := by decide +kernel
theorem dX7_tour_59 : decode cX7_tour 59 = .ok (.aload_n 0, 1) := by decide +kernel
theorem dX7_tour_60 : decode cX7_tour 60 = .ok (.getfield 36, 3) := by decide +kernel
theorem dX7_tour_63 : decode cX7_tour 63 = .ok (.invokevirtual 261, 3) := by decide +kernel
theorem dX7_tour_66 : decode cX7_tour 66 = .ok (.iload_n 1, 1) := by decide +kernel
theorem dX7_tour_67 : decode cX7_tour 67 = .ok (.aload_n 0, 1) := by decide +kernel
theorem dX7_tour_68 : decode cX7_tour 68 = .ok (.getfield 43, 3) := by decide +kernel
theorem dX7_tour_71 : decode cX7_tour 71 = .ok (.getfield 264, 3) := by decide +kernel
theorem dX7_tour_74 : decode cX7_tour 74 = .ok (.if_icmp .lt 6, 3) := by decide +kernel
theorem dX7_tour_77 : decode cX7_tour 77 = .ok (.ldc 152, 2) := by decide +kernel
theorem dX7_tour_79 : decode cX7_tour 79 = .ok (.ireturn, 1) := by decide +kernel
theorem dX7_tour_80 : decode cX7_tour 80 = .ok (.iload_n 2, 1) := by decide +kernel
theorem dX7_tour_81 : decode cX7_tour 81 = .ok (.lookupswitch 47 #[(0, 27), (1, 37)], 27) := by decide +kernel
theorem dX7_tour_108 : decode cX7_tour 108 = .ok (.aload_n 0, 1) := by decide +kernel
theorem dX7_tour_109 : decode cX7_tour 109 = .ok (.getfield 43, 3) := by decide +kernel
theorem dX7_tour_112 : decode cX7_tour 112 = .ok (.getfield 265, 3) := by decide +kernel
theorem dX7_tour_115 : decode cX7_tour 115 = .ok (.iload_n 1, 1) := by decide +kernel
theorem dX7_tour_116 : decode cX7_tour 116 = .ok (.iaload, 1) := by decide +kernel
theorem dX7_tour_117 : decode cX7_tour 117 = .ok (.ireturn, 1) := by decide +kernel
theorem dX7_tour_118 : decode cX7_tour 118 = .ok (.aload_n 0, 1) := by decide +kernel
theorem dX7_tour_119 : decode cX7_tour 119 = .ok (.getfield 43, 3) := by decide +kernel
theorem dX7_tour_122 : decode cX7_tour 122 = .ok (.getfield 268, 3) := by decide +kernel
theorem dX7_tour_125 : decode cX7_tour 125 = .ok (.iload_n 1, 1) := by decide +kernel
theorem dX7_tour_126 : decode cX7_tour 126 = .ok (.iaload, 1) := by decide +kernel
theorem dX7_tour_127 : decode cX7_tour 127 = .ok (.ireturn, 1) := by decide +kernel
theorem dX7_tour_128 : decode cX7_tour 128 = .ok (.aload_n 0, 1) := by decide +kernel
theorem dX7_tour_129 : decode cX7_tour 129 = .ok (.getfield 43, 3) := by decide +kernel
theorem dX7_tour_132 : decode cX7_tour 132 = .ok (.getfield 271, 3) := by decide +kernel
theorem dX7_tour_135 : decode cX7_tour 135 = .ok (.iload_n 1, 1) := by decide +kernel
theorem dX7_tour_136 : decode cX7_tour 136 = .ok (.iaload, 1) := by decide +kernel
theorem dX7_tour_137 : decode cX7_tour 137 = .ok (.ireturn, 1) := by decide +kernel
theorem dX7_count_0 : decode cX7_count 0 = .ok (.iload_n 1, 1) := by decide +kernel
theorem dX7_count_1 : decode cX7_count 1 = .ok (.tableswitch 199 0 12 #[67, 78, 89, 100, 108, 116, 140, 148, 156, 167, 175, 183, 191], 67) := by decide +kernel
theorem dX7_count_68 : decode cX7_count 68 = .ok (.aload_n 0, 1) := by decide +kernel
theorem dX7_count_69 : decode cX7_count 69 = .ok (.getfield 10, 3) := by decide +kernel
theorem dX7_count_72 : decode cX7_count 72 = .ok (.getfield 70, 3) := by decide +kernel
theorem dX7_count_75 : decode cX7_count 75 = .ok (.getfield 81, 3) := by decide +kernel
theorem dX7_count_78 : decode cX7_count 78 = .ok (.ireturn, 1) := by decide +kernel
theorem dX7_count_79 : decode cX7_count 79 = .ok (.aload_n 0, 1) := by decide +kernel
theorem dX7_count_80 : decode cX7_count 80 = .ok (.getfield 10, 3) := by decide +kernel
theorem dX7_count_83 : decode cX7_count 83 = .ok (.getfield 93, 3) := by decide +kernel
theorem dX7_count_86 : decode cX7_count 86 = .ok (.getfield 97, 3) := by decide +kernel
theorem dX7_count_89 : decode cX7_count 89 = .ok (.ireturn, 1) := by decide +kernel
theorem dX7_count_90 : decode cX7_count 90 = .ok (.aload_n 0, 1) := by decide +kernel
theorem dX7_count_91 : decode cX7_count 91 = .ok (.getfield 10, 3) := by decide +kernel
theorem dX7_count_94 : decode cX7_count 94 = .ok (.getfield 93, 3) := by decide +kernel
theorem dX7_count_97 : decode cX7_count 97 = .ok (.invokevirtual 274, 3) := by decide +kernel
theorem dX7_count_100 : decode cX7_count 100 = .ok (.ireturn, 1) := by decide +kernel
theorem dX7_count_101 : decode cX7_count 101 = .ok (.aload_n 0, 1) := by decide +kernel
theorem dX7_count_102 : decode cX7_count 102 = .ok (.getfield 10, 3) := by decide +kernel
theorem dX7_count_105 : decode cX7_count 105 = .ok (.invokevirtual 277, 3) := by decide +kernel
theorem dX7_count_108 : decode cX7_count 108 = .ok (.ireturn, 1) := by decide +kernel
theorem dX7_count_109 : decode cX7_count 109 = .ok (.aload_n 0, 1) := by decide +kernel
theorem dX7_count_110 : decode cX7_count 110 = .ok (.getfield 10, 3) := by decide +kernel
theorem dX7_count_113 : decode cX7_count 113 = .ok (.getfield 201, 3) := by decide +kernel
theorem dX7_count_116 : decode cX7_count 116 = .ok (.ireturn, 1) := by decide +kernel
theorem dX7_count_117 : decode cX7_count 117 = .ok (.aload_n 0, 1) := by decide +kernel
theorem dX7_count_118 : decode cX7_count 118 = .ok (.getfield 10, 3) := by decide +kernel
theorem dX7_count_121 : decode cX7_count 121 = .ok (.getfield 109, 3) := by decide +kernel
theorem dX7_count_124 : decode cX7_count 124 = .ok (.iconst (-1), 1) := by decide +kernel
theorem dX7_count_125 : decode cX7_count 125 = .ok (.if_icmp .ne 8, 3) := by decide +kernel
theorem dX7_count_128 : decode cX7_count 128 = .ok (.ldc 152, 2) := by decide +kernel
theorem dX7_count_130 : decode cX7_count 130 = .ok (.goto 10, 3) := by decide +kernel
theorem dX7_count_133 : decode cX7_count 133 = .ok (.aload_n 0, 1) := by decide +kernel
theorem dX7_count_134 : decode cX7_count 134 = .ok (.getfield 10, 3) := by decide +kernel
theorem dX7_count_137 : decode cX7_count 137 = .ok (.getfield 109, 3) := by decide +kernel
theorem dX7_count_140 : decode cX7_count 140 = .ok (.ireturn, 1) := by decide +kernel
theorem dX7_count_141 : decode cX7_count 141 = .ok (.aload_n 0, 1) := by decide +kernel
theorem dX7_count_142 : decode cX7_count 142 = .ok (.getfield 10, 3) := by decide +kernel
theorem dX7_count_145 : decode cX7_count 145 = .ok (.getfield 280, 3) := by decide +kernel
theorem dX7_count_148 : decode cX7_count 148 = .ok (.ireturn, 1) := by decide +kernel
theorem dX7_count_149 : decode cX7_count 149 = .ok (.aload_n 0, 1) := by decide +kernel
theorem dX7_count_150 : decode cX7_count 150 = .ok (.getfield 10, 3) := by decide +kernel
theorem dX7_count_153 : decode cX7_count 153 = .ok (.getfield 282, 3) := by decide +kernel
theorem dX7_count_156 : decode cX7_count 156 = .ok (.ireturn, 1) := by decide +kernel
theorem dX7_count_157 : decode cX7_count 157 = .ok (.aload_n 0, 1) := by decide +kernel
theorem dX7_count_158 : decode cX7_count 158 = .ok (.getfield 10, 3) := by decide +kernel
theorem dX7_count_161 : decode cX7_count 161 = .ok (.getfield 93, 3) := by decide +kernel
theorem dX7_count_164 : decode cX7_count 164 = .ok (.invokevirtual 284, 3) := by decide +kernel
theorem dX7_count_167 : decode cX7_count 167 = .ok (.ireturn, 1) := by decide +kernel
theorem dX7_count_168 : decode cX7_count 168 = .ok (.aload_n 0, 1) := by decide +kernel
theorem dX7_count_169 : decode cX7_count 169 = .ok (.getfield 10, 3) := by decide +kernel
theorem dX7_count_172 : decode cX7_count 172 = .ok (.getfield 287, 3) := by decide +kernel
theorem dX7_count_175 : decode cX7_count 175 = .ok (.ireturn, 1) := by decide +kernel
theorem dX7_count_176 : decode cX7_count 176 = .ok (.aload_n 0, 1) := by decide +kernel
theorem dX7_count_177 : decode cX7_count 177 = .ok (.getfield 10, 3) := by decide +kernel
theorem dX7_count_180 : decode cX7_count 180 = .ok (.getfield 290, 3) := by decide +kernel
theorem dX7_count_183 : decode cX7_count 183 = .ok (.ireturn, 1) := by decide +kernel
theorem dX7_count_184 : decode cX7_count 184 = .ok (.aload_n 0, 1) := by decide +kernel
theorem dX7_count_185 : decode cX7_count 185 = .ok (.getfield 22, 3) := by decide +kernel
theorem dX7_count_188 : decode cX7_count 188 = .ok (.getfield 293, 3) := by decide +kernel
theorem dX7_count_191 : decode cX7_count 191 = .ok (.ireturn, 1) := by decide +kernel
theorem dX7_count_192 : decode cX7_count 192 = .ok (.aload_n 0, 1) := by decide +kernel
theorem dX7_count_193 : decode cX7_count 193 = .ok (.getfield 29, 3) := by decide +kernel
theorem dX7_count_196 : decode cX7_count 196 = .ok (.getfield 294, 3) := by decide +kernel
theorem dX7_count_199 : decode cX7_count 199 = .ok (.ireturn, 1) := by decide +kernel
theorem dX7_count_200 : decode cX7_count 200 = .ok (.iload_n 1, 1) := by decide +kernel
theorem dX7_count_201 : decode cX7_count 201 = .ok (.bipush 20, 2) := by decide +kernel
theorem dX7_count_203 : decode cX7_count 203 = .ok (.bipush 24, 2) := by decide +kernel
theorem dX7_count_205 : decode cX7_count 205 = .ok (.invokestatic 47, 3) := by decide +kernel
theorem dX7_count_208 : decode cX7_count 208 = .ok (.ifCond .eq 18, 3) := by decide +kernel
theorem dX7_count_211 : decode cX7_count 211 = .ok (.aload_n 0, 1) := by decide +kernel
theorem dX7_count_212 : decode cX7_count 212 = .ok (.getfield 10, 3) := by decide +kernel
theorem dX7_count_215 : decode cX7_count 215 = .ok (.getfield 63, 3) := by decide +kernel
theorem dX7_count_218 : decode cX7_count 218 = .ok (.iload_n 1, 1) := by decide +kernel
theorem dX7_count_219 : decode cX7_count 219 = .ok (.bipush 20, 2) := by decide +kernel
theorem dX7_count_221 : decode cX7_count 221 = .ok (.isub, 1) := by decide +kernel
theorem dX7_count_222 : decode cX7_count 222 = .ok (.iaload, 1) := by decide +kernel
theorem dX7_count_223 : decode cX7_count 223 = .ok (.goto 5, 3) := by decide +kernel
theorem dX7_count_226 : decode cX7_count 226 = .ok (.ldc 58, 2) := by decide +kernel
theorem dX7_count_228 : decode cX7_count 228 = .ok (.ireturn, 1) := by decide +kernel
theorem dX7_undo_0 : decode cX7_undo 0 = .ok (.aload_n 0, 1) := by decide +kernel
theorem dX7_undo_1 : decode cX7_undo 1 = .ok (.getfield 22, 3) := by decide +kernel
theorem dX7_undo_4 : decode cX7_undo 4 = .ok (.getfield 293, 3) := by decide +kernel
theorem dX7_undo_7 : decode cX7_undo 7 = .ok (.ifCond .ne 6, 3) := by decide +kernel
theorem dX7_undo_10 : decode cX7_undo 10 = .ok (.ldc 80, 2) := by decide +kernel
theorem dX7_undo_12 : decode cX7_undo 12 = .ok (.ireturn, 1) := by decide +kernel
theorem dX7_undo_13 : decode cX7_undo 13 = .ok (.aload_n 0, 1) := by decide +kernel
theorem dX7_undo_14 : decode cX7_undo 14 = .ok (.getfield 22, 3) := by decide +kernel
theorem dX7_undo_17 : decode cX7_undo 17 = .ok (.aload_n 0, 1) := by decide +kernel
theorem dX7_undo_18 : decode cX7_undo 18 = .ok (.getfield 10, 3) := by decide +kernel
theorem dX7_undo_21 : decode cX7_undo 21 = .ok (.invokevirtual 296, 3) := by decide +kernel
theorem dX7_undo_24 : decode cX7_undo 24 = .ok (.aload_n 0, 1) := by decide +kernel
theorem dX7_undo_25 : decode cX7_undo 25 = .ok (.getfield 22, 3) := by decide +kernel
theorem dX7_undo_28 : decode cX7_undo 28 = .ok (.getfield 293, 3) := by decide +kernel
theorem dX7_undo_31 : decode cX7_undo 31 = .ok (.ireturn, 1) := by decide +kernel
theorem dX7_type_0 : decode cX7_type 0 = .ok (.iload_n 1, 1) := by decide +kernel
theorem dX7_type_1 : decode cX7_type 1 = .ok (.bipush 32, 2) := by decide +kernel
theorem dX7_type_3 : decode cX7_type 3 = .ok (.bipush 126, 2) := by decide +kernel
theorem dX7_type_5 : decode cX7_type 5 = .ok (.invokestatic 47, 3) := by decide +kernel
theorem dX7_type_8 : decode cX7_type 8 = .ok (.ifCond .ne 6, 3) := by decide +kernel
theorem dX7_type_11 : decode cX7_type 11 = .ok (.ldc 58, 2) := by decide +kernel
theorem dX7_type_13 : decode cX7_type 13 = .ok (.ireturn, 1) := by decide +kernel
theorem dX7_type_14 : decode cX7_type 14 = .ok (.aload_n 0, 1) := by decide +kernel
theorem dX7_type_15 : decode cX7_type 15 = .ok (.getfield 29, 3) := by decide +kernel
theorem dX7_type_18 : decode cX7_type 18 = .ok (.getfield 294, 3) := by decide +kernel
theorem dX7_type_21 : decode cX7_type 21 = .ok (.bipush 60, 2) := by decide +kernel
theorem dX7_type_23 : decode cX7_type 23 = .ok (.if_icmp .lt 6, 3) := by decide +kernel
theorem dX7_type_26 : decode cX7_type 26 = .ok (.ldc 85, 2) := by decide +kernel
theorem dX7_type_28 : decode cX7_type 28 = .ok (.ireturn, 1) := by decide +kernel
theorem dX7_type_29 : decode cX7_type 29 = .ok (.aload_n 0, 1) := by decide +kernel
theorem dX7_type_30 : decode cX7_type 30 = .ok (.getfield 29, 3) := by decide +kernel
theorem dX7_type_33 : decode cX7_type 33 = .ok (.iload_n 1, 1) := by decide +kernel
theorem dX7_type_34 : decode cX7_type 34 = .ok (.invokevirtual 299, 3) := by decide +kernel
theorem dX7_type_37 : decode cX7_type 37 = .ok (.aload_n 0, 1) := by decide +kernel
theorem dX7_type_38 : decode cX7_type 38 = .ok (.getfield 29, 3) := by decide +kernel
theorem dX7_type_41 : decode cX7_type 41 = .ok (.getfield 294, 3) := by decide +kernel
theorem dX7_type_44 : decode cX7_type 44 = .ok (.ireturn, 1) := by decide +kernel
theorem dX7_clearText_0 : decode cX7_clearText 0 = .ok (.aload_n 0, 1) := by decide +kernel
theorem dX7_clearText_1 : decode cX7_clearText 1 = .ok (.getfield 29, 3) := by decide +kernel
theorem dX7_clearText_4 : decode cX7_clearText 4 = .ok (.getfield 294, 3) := by decide +kernel
theorem dX7_clearText_7 : decode cX7_clearText 7 = .ok (.istore_n 1, 1) := by decide +kernel
theorem dX7_clearText_8 : decode cX7_clearText 8 = .ok (.aload_n 0, 1) := by decide +kernel
theorem dX7_clearText_9 : decode cX7_clearText 9 = .ok (.getfield 29, 3) := by decide +kernel
theorem dX7_clearText_12 : decode cX7_clearText 12 = .ok (.iconst 0, 1) := by decide +kernel
theorem dX7_clearText_13 : decode cX7_clearText 13 = .ok (.putfield 294, 3) := by decide +kernel
theorem dX7_clearText_16 : decode cX7_clearText 16 = .ok (.iload_n 1, 1) := by decide +kernel
theorem dX7_clearText_17 : decode cX7_clearText 17 = .ok (.ireturn, 1) := by decide +kernel
theorem dX7_fault_0 : decode cX7_fault 0 = .ok (.iload_n 1, 1) := by decide +kernel
theorem dX7_fault_1 : decode cX7_fault 1 = .ok (.iconst 0, 1) := by decide +kernel
theorem dX7_fault_2 : decode cX7_fault 2 = .ok (.iconst 2, 1) := by decide +kernel
theorem dX7_fault_3 : decode cX7_fault 3 = .ok (.invokestatic 47, 3) := by decide +kernel
theorem dX7_fault_6 : decode cX7_fault 6 = .ok (.ifCond .ne 6, 3) := by decide +kernel
theorem dX7_fault_9 : decode cX7_fault 9 = .ok (.ldc 58, 2) := by decide +kernel
theorem dX7_fault_11 : decode cX7_fault 11 = .ok (.ireturn, 1) := by decide +kernel
theorem dX7_fault_12 : decode cX7_fault 12 = .ok (.aload_n 0, 1) := by decide +kernel
theorem dX7_fault_13 : decode cX7_fault 13 = .ok (.getfield 16, 3) := by decide +kernel
theorem dX7_fault_16 : decode cX7_fault 16 = .ok (.aload_n 0, 1) := by decide +kernel
theorem dX7_fault_17 : decode cX7_fault 17 = .ok (.getfield 10, 3) := by decide +kernel
theorem dX7_fault_20 : decode cX7_fault 20 = .ok (.invokevirtual 302, 3) := by decide +kernel
theorem dX7_fault_23 : decode cX7_fault 23 = .ok (.aload_n 0, 1) := by decide +kernel
theorem dX7_fault_24 : decode cX7_fault 24 = .ok (.getfield 29, 3) := by decide +kernel
theorem dX7_fault_27 : decode cX7_fault 27 = .ok (.aload_n 0, 1) := by decide +kernel
theorem dX7_fault_28 : decode cX7_fault 28 = .ok (.getfield 16, 3) := by decide +kernel
theorem dX7_fault_31 : decode cX7_fault 31 = .ok (.invokevirtual 305, 3) := by decide +kernel
theorem dX7_fault_34 : decode cX7_fault 34 = .ok (.pop, 1) := by decide +kernel
theorem dX7_fault_35 : decode cX7_fault 35 = .ok (.aload_n 0, 1) := by decide +kernel
theorem dX7_fault_36 : decode cX7_fault 36 = .ok (.getfield 29, 3) := by decide +kernel
theorem dX7_fault_39 : decode cX7_fault 39 = .ok (.getfield 309, 3) := by decide +kernel
theorem dX7_fault_42 : decode cX7_fault 42 = .ok (.ifCond .ne 6, 3) := by decide +kernel
theorem dX7_fault_45 : decode cX7_fault 45 = .ok (.ldc 152, 2) := by decide +kernel
theorem dX7_fault_47 : decode cX7_fault 47 = .ok (.ireturn, 1) := by decide +kernel
theorem dX7_fault_48 : decode cX7_fault 48 = .ok (.iload_n 1, 1) := by decide +kernel
theorem dX7_fault_49 : decode cX7_fault 49 = .ok (.lookupswitch 43 #[(0, 27), (1, 35)], 27) := by decide +kernel
theorem dX7_fault_76 : decode cX7_fault 76 = .ok (.aload_n 0, 1) := by decide +kernel
theorem dX7_fault_77 : decode cX7_fault 77 = .ok (.getfield 29, 3) := by decide +kernel
theorem dX7_fault_80 : decode cX7_fault 80 = .ok (.getfield 312, 3) := by decide +kernel
theorem dX7_fault_83 : decode cX7_fault 83 = .ok (.ireturn, 1) := by decide +kernel
theorem dX7_fault_84 : decode cX7_fault 84 = .ok (.aload_n 0, 1) := by decide +kernel
theorem dX7_fault_85 : decode cX7_fault 85 = .ok (.getfield 29, 3) := by decide +kernel
theorem dX7_fault_88 : decode cX7_fault 88 = .ok (.getfield 309, 3) := by decide +kernel
theorem dX7_fault_91 : decode cX7_fault 91 = .ok (.ireturn, 1) := by decide +kernel
theorem dX7_fault_92 : decode cX7_fault 92 = .ok (.aload_n 0, 1) := by decide +kernel
theorem dX7_fault_93 : decode cX7_fault 93 = .ok (.getfield 29, 3) := by decide +kernel
theorem dX7_fault_96 : decode cX7_fault 96 = .ok (.getfield 315, 3) := by decide +kernel
theorem dX7_fault_99 : decode cX7_fault 99 = .ok (.ireturn, 1) := by decide +kernel
theorem dX7_play_0 : decode cX7_play 0 = .ok (.aload_n 0, 1) := by decide +kernel
theorem dX7_play_1 : decode cX7_play 1 = .ok (.getfield 16, 3) := by decide +kernel
theorem dX7_play_4 : decode cX7_play 4 = .ok (.aload_n 0, 1) := by decide +kernel
theorem dX7_play_5 : decode cX7_play 5 = .ok (.getfield 10, 3) := by decide +kernel
theorem dX7_play_8 : decode cX7_play 8 = .ok (.invokevirtual 302, 3) := by decide +kernel
theorem dX7_play_11 : decode cX7_play 11 = .ok (.aload_n 0, 1) := by decide +kernel
theorem dX7_play_12 : decode cX7_play 12 = .ok (.getfield 29, 3) := by decide +kernel
theorem dX7_play_15 : decode cX7_play 15 = .ok (.aload_n 0, 1) := by decide +kernel
theorem dX7_play_16 : decode cX7_play 16 = .ok (.getfield 16, 3) := by decide +kernel
theorem dX7_play_19 : decode cX7_play 19 = .ok (.invokevirtual 305, 3) := by decide +kernel
theorem dX7_play_22 : decode cX7_play 22 = .ok (.istore_n 1, 1) := by decide +kernel
theorem dX7_play_23 : decode cX7_play 23 = .ok (.aload_n 0, 1) := by decide +kernel
theorem dX7_play_24 : decode cX7_play 24 = .ok (.getfield 29, 3) := by decide +kernel
theorem dX7_play_27 : decode cX7_play 27 = .ok (.getfield 309, 3) := by decide +kernel
theorem dX7_play_30 : decode cX7_play 30 = .ok (.ifCond .eq 6, 3) := by decide +kernel
theorem dX7_play_33 : decode cX7_play 33 = .ok (.ldc 80, 2) := by decide +kernel
theorem dX7_play_35 : decode cX7_play 35 = .ok (.ireturn, 1) := by decide +kernel
theorem dX7_play_36 : decode cX7_play 36 = .ok (.aload_n 0, 1) := by decide +kernel
theorem dX7_play_37 : decode cX7_play 37 = .ok (.getfield 22, 3) := by decide +kernel
theorem dX7_play_40 : decode cX7_play 40 = .ok (.aload_n 0, 1) := by decide +kernel
theorem dX7_play_41 : decode cX7_play 41 = .ok (.getfield 10, 3) := by decide +kernel
theorem dX7_play_44 : decode cX7_play 44 = .ok (.invokevirtual 59, 3) := by decide +kernel
theorem dX7_play_47 : decode cX7_play 47 = .ok (.aload_n 0, 1) := by decide +kernel
theorem dX7_play_48 : decode cX7_play 48 = .ok (.getfield 10, 3) := by decide +kernel
theorem dX7_play_51 : decode cX7_play 51 = .ok (.aload_n 0, 1) := by decide +kernel
theorem dX7_play_52 : decode cX7_play 52 = .ok (.getfield 16, 3) := by decide +kernel
theorem dX7_play_55 : decode cX7_play 55 = .ok (.invokevirtual 302, 3) := by decide +kernel
theorem dX7_play_58 : decode cX7_play 58 = .ok (.iload_n 1, 1) := by decide +kernel
theorem dX7_play_59 : decode cX7_play 59 = .ok (.ireturn, 1) := by decide +kernel
theorem dX7_isIn_0 : decode cX7_isIn 0 = .ok (.iload_n 0, 1) := by decide +kernel
theorem dX7_isIn_1 : decode cX7_isIn 1 = .ok (.iload_n 1, 1) := by decide +kernel
theorem dX7_isIn_2 : decode cX7_isIn 2 = .ok (.if_icmp .lt 12, 3) := by decide +kernel
theorem dX7_isIn_5 : decode cX7_isIn 5 = .ok (.iload_n 0, 1) := by decide +kernel
theorem dX7_isIn_6 : decode cX7_isIn 6 = .ok (.iload_n 2, 1) := by decide +kernel
theorem dX7_isIn_7 : decode cX7_isIn 7 = .ok (.if_icmp .gt 7, 3) := by decide +kernel
theorem dX7_isIn_10 : decode cX7_isIn 10 = .ok (.iconst 1, 1) := by decide +kernel
theorem dX7_isIn_11 : decode cX7_isIn 11 = .ok (.goto 4, 3) := by decide +kernel
theorem dX7_isIn_14 : decode cX7_isIn 14 = .ok (.iconst 0, 1) := by decide +kernel
theorem dX7_isIn_15 : decode cX7_isIn 15 = .ok (.ireturn, 1) := by decide +kernel
theorem dX7_isPoint_0 : decode cX7_isPoint 0 = .ok (.iload_n 0, 1) := by decide +kernel
theorem dX7_isPoint_1 : decode cX7_isPoint 1 = .ok (.iconst 0, 1) := by decide +kernel
theorem dX7_isPoint_2 : decode cX7_isPoint 2 = .ok (.bipush 99, 2) := by decide +kernel
theorem dX7_isPoint_4 : decode cX7_isPoint 4 = .ok (.invokestatic 47, 3) := by decide +kernel
theorem dX7_isPoint_7 : decode cX7_isPoint 7 = .ok (.ifCond .eq 17, 3) := by decide +kernel
theorem dX7_isPoint_10 : decode cX7_isPoint 10 = .ok (.iload_n 1, 1) := by decide +kernel
theorem dX7_isPoint_11 : decode cX7_isPoint 11 = .ok (.iconst 0, 1) := by decide +kernel
theorem dX7_isPoint_12 : decode cX7_isPoint 12 = .ok (.bipush 99, 2) := by decide +kernel
theorem dX7_isPoint_14 : decode cX7_isPoint 14 = .ok (.invokestatic 47, 3) := by decide +kernel
theorem dX7_isPoint_17 : decode cX7_isPoint 17 = .ok (.ifCond .eq 7, 3) := by decide +kernel
theorem dX7_isPoint_20 : decode cX7_isPoint 20 = .ok (.iconst 1, 1) := by decide +kernel
theorem dX7_isPoint_21 : decode cX7_isPoint 21 = .ok (.goto 4, 3) := by decide +kernel
theorem dX7_isPoint_24 : decode cX7_isPoint 24 = .ok (.iconst 0, 1) := by decide +kernel
theorem dX7_isPoint_25 : decode cX7_isPoint 25 = .ok (.ireturn, 1) := by decide +kernel
theorem dX7_asBit_0 : decode cX7_asBit 0 = .ok (.iload_n 0, 1) := by decide +kernel
theorem dX7_asBit_1 : decode cX7_asBit 1 = .ok (.ifCond .eq 7, 3) := by decide +kernel
theorem dX7_asBit_4 : decode cX7_asBit 4 = .ok (.iconst 1, 1) := by decide +kernel
theorem dX7_asBit_5 : decode cX7_asBit 5 = .ok (.goto 4, 3) := by decide +kernel
theorem dX7_asBit_8 : decode cX7_asBit 8 = .ok (.iconst 0, 1) := by decide +kernel
theorem dX7_asBit_9 : decode cX7_asBit 9 = .ok (.ireturn, 1) := by decide +kernel
theorem dX7_holderTakes_0 : decode cX7_holderTakes 0 = .ok (.iload_n 0, 1) := by decide +kernel
theorem dX7_holderTakes_1 : decode cX7_holderTakes 1 = .ok (.ifCond .ne 13, 3) := by decide +kernel
theorem dX7_holderTakes_4 : decode cX7_holderTakes 4 = .ok (.iload_n 1, 1) := by decide +kernel
theorem dX7_holderTakes_5 : decode cX7_holderTakes 5 = .ok (.ifCond .ne 7, 3) := by decide +kernel
theorem dX7_holderTakes_8 : decode cX7_holderTakes 8 = .ok (.iconst 1, 1) := by decide +kernel
theorem dX7_holderTakes_9 : decode cX7_holderTakes 9 = .ok (.goto 4, 3) := by decide +kernel
theorem dX7_holderTakes_12 : decode cX7_holderTakes 12 = .ok (.iconst 0, 1) := by decide +kernel
theorem dX7_holderTakes_13 : decode cX7_holderTakes 13 = .ok (.ireturn, 1) := by decide +kernel
theorem dX7_holderTakes_14 : decode cX7_holderTakes 14 = .ok (.iload_n 0, 1) := by decide +kernel
theorem dX7_holderTakes_15 : decode cX7_holderTakes 15 = .ok (.iconst 1, 1) := by decide +kernel
theorem dX7_holderTakes_16 : decode cX7_holderTakes 16 = .ok (.if_icmp .ne 8, 3) := by decide +kernel
theorem dX7_holderTakes_19 : decode cX7_holderTakes 19 = .ok (.iload_n 1, 1) := by decide +kernel
theorem dX7_holderTakes_20 : decode cX7_holderTakes 20 = .ok (.iconst 1, 1) := by decide +kernel
theorem dX7_holderTakes_21 : decode cX7_holderTakes 21 = .ok (.if_icmp .ne 7, 3) := by decide +kernel
theorem dX7_holderTakes_24 : decode cX7_holderTakes 24 = .ok (.iconst 1, 1) := by decide +kernel
theorem dX7_holderTakes_25 : decode cX7_holderTakes 25 = .ok (.goto 4, 3) := by decide +kernel
theorem dX7_holderTakes_28 : decode cX7_holderTakes 28 = .ok (.iconst 0, 1) := by decide +kernel
theorem dX7_holderTakes_29 : decode cX7_holderTakes 29 = .ok (.ireturn, 1) := by decide +kernel
theorem dX7_distance_0 : decode cX7_distance 0 = .ok (.iload_n 0, 1) := by decide +kernel
theorem dX7_distance_1 : decode cX7_distance 1 = .ok (.iload_n 2, 1) := by decide +kernel
theorem dX7_distance_2 : decode cX7_distance 2 = .ok (.isub, 1) := by decide +kernel
theorem dX7_distance_3 : decode cX7_distance 3 = .ok (.invokestatic 318, 3) := by decide +kernel
theorem dX7_distance_6 : decode cX7_distance 6 = .ok (.iload_n 1, 1) := by decide +kernel
theorem dX7_distance_7 : decode cX7_distance 7 = .ok (.iload_n 3, 1) := by decide +kernel
theorem dX7_distance_8 : decode cX7_distance 8 = .ok (.isub, 1) := by decide +kernel
theorem dX7_distance_9 : decode cX7_distance 9 = .ok (.invokestatic 318, 3) := by decide +kernel
theorem dX7_distance_12 : decode cX7_distance 12 = .ok (.invokestatic 224, 3) := by decide +kernel
theorem dX7_distance_15 : decode cX7_distance 15 = .ok (.ireturn, 1) := by decide +kernel
theorem dX7_copy_0 : decode cX7_copy 0 = .ok (.aload_n 0, 1) := by decide +kernel
theorem dX7_copy_1 : decode cX7_copy 1 = .ok (.iconst 0, 1) := by decide +kernel
theorem dX7_copy_2 : decode cX7_copy 2 = .ok (.aload_n 1, 1) := by decide +kernel
theorem dX7_copy_3 : decode cX7_copy 3 = .ok (.iconst 0, 1) := by decide +kernel
theorem dX7_copy_4 : decode cX7_copy 4 = .ok (.aload_n 0, 1) := by decide +kernel
theorem dX7_copy_5 : decode cX7_copy 5 = .ok (.arraylength, 1) := by decide +kernel
theorem dX7_copy_6 : decode cX7_copy 6 = .ok (.aload_n 1, 1) := by decide +kernel
theorem dX7_copy_7 : decode cX7_copy 7 = .ok (.arraylength, 1) := by decide +kernel
theorem dX7_copy_8 : decode cX7_copy 8 = .ok (.invokestatic 321, 3) := by decide +kernel
theorem dX7_copy_11 : decode cX7_copy 11 = .ok (.invokestatic 324, 3) := by decide +kernel
theorem dX7_copy_14 : decode cX7_copy 14 = .ok (.return_, 1) := by decide +kernel
theorem dX7_bitsOf_0 : decode cX7_bitsOf 0 = .ok (.fload_n 0, 1) := by decide +kernel
theorem dX7_bitsOf_1 : decode cX7_bitsOf 1 = .ok (.fstore_n 1, 1) := by decide +kernel
theorem dX7_bitsOf_2 : decode cX7_bitsOf 2 = .ok (.bipush 127, 2) := by decide +kernel
theorem dX7_bitsOf_4 : decode cX7_bitsOf 4 = .ok (.istore_n 2, 1) := by decide +kernel
theorem dX7_bitsOf_5 : decode cX7_bitsOf 5 = .ok (.iconst 0, 1) := by decide +kernel
theorem dX7_bitsOf_6 : decode cX7_bitsOf 6 = .ok (.istore_n 3, 1) := by decide +kernel
theorem dX7_bitsOf_7 : decode cX7_bitsOf 7 = .ok (.iload_n 3, 1) := by decide +kernel
theorem dX7_bitsOf_8 : decode cX7_bitsOf 8 = .ok (.bipush 126, 2) := by decide +kernel
theorem dX7_bitsOf_10 : decode cX7_bitsOf 10 = .ok (.if_icmp .ge 22, 3) := by decide +kernel
theorem dX7_bitsOf_13 : decode cX7_bitsOf 13 = .ok (.fload_n 1, 1) := by decide +kernel
theorem dX7_bitsOf_14 : decode cX7_bitsOf 14 = .ok (.fconst 1, 1) := by decide +kernel
theorem dX7_bitsOf_15 : decode cX7_bitsOf 15 = .ok (.fcmp .g, 1) := by decide +kernel
theorem dX7_bitsOf_16 : decode cX7_bitsOf 16 = .ok (.ifCond .ge 16, 3) := by decide +kernel
theorem dX7_bitsOf_19 : decode cX7_bitsOf 19 = .ok (.fload_n 1, 1) := by decide +kernel
theorem dX7_bitsOf_20 : decode cX7_bitsOf 20 = .ok (.fconst 2, 1) := by decide +kernel
theorem dX7_bitsOf_21 : decode cX7_bitsOf 21 = .ok (.fmul, 1) := by decide +kernel
theorem dX7_bitsOf_22 : decode cX7_bitsOf 22 = .ok (.fstore_n 1, 1) := by decide +kernel
theorem dX7_bitsOf_23 : decode cX7_bitsOf 23 = .ok (.iinc 2 (-1), 3) := by decide +kernel
theorem dX7_bitsOf_26 : decode cX7_bitsOf 26 = .ok (.iinc 3 1, 3) := by decide +kernel
theorem dX7_bitsOf_29 : decode cX7_bitsOf 29 = .ok (.goto (-22), 3) := by decide +kernel
theorem dX7_bitsOf_32 : decode cX7_bitsOf 32 = .ok (.iload_n 2, 1) := by decide +kernel
theorem dX7_bitsOf_33 : decode cX7_bitsOf 33 = .ok (.bipush 23, 2) := by decide +kernel
theorem dX7_bitsOf_35 : decode cX7_bitsOf 35 = .ok (.ishl, 1) := by decide +kernel
theorem dX7_bitsOf_36 : decode cX7_bitsOf 36 = .ok (.fload_n 1, 1) := by decide +kernel
theorem dX7_bitsOf_37 : decode cX7_bitsOf 37 = .ok (.fconst 1, 1) := by decide +kernel
theorem dX7_bitsOf_38 : decode cX7_bitsOf 38 = .ok (.fsub, 1) := by decide +kernel
theorem dX7_bitsOf_39 : decode cX7_bitsOf 39 = .ok (.ldc_w 330, 3) := by decide +kernel
theorem dX7_bitsOf_42 : decode cX7_bitsOf 42 = .ok (.fmul, 1) := by decide +kernel
theorem dX7_bitsOf_43 : decode cX7_bitsOf 43 = .ok (.f2i, 1) := by decide +kernel
theorem dX7_bitsOf_44 : decode cX7_bitsOf 44 = .ok (.ior, 1) := by decide +kernel
theorem dX7_bitsOf_45 : decode cX7_bitsOf 45 = .ok (.ireturn, 1) := by decide +kernel
theorem dX8_init_0 : decode cX8_init 0 = .ok (.aload_n 0, 1) := by decide +kernel
theorem dX8_init_1 : decode cX8_init 1 = .ok (.invokespecial 1, 3) := by decide +kernel
theorem dX8_init_4 : decode cX8_init 4 = .ok (.aload_n 0, 1) := by decide +kernel
theorem dX8_init_5 : decode cX8_init 5 = .ok (.sipush 181, 3) := by decide +kernel
theorem dX8_init_8 : decode cX8_init 8 = .ok (.newarray .int, 2) := by decide +kernel
theorem dX8_init_10 : decode cX8_init 10 = .ok (.putfield 7, 3) := by decide +kernel
theorem dX8_init_13 : decode cX8_init 13 = .ok (.aload_n 0, 1) := by decide +kernel
theorem dX8_init_14 : decode cX8_init 14 = .ok (.sipush 724, 3) := by decide +kernel
theorem dX8_init_17 : decode cX8_init 17 = .ok (.newarray .int, 2) := by decide +kernel
theorem dX8_init_19 : decode cX8_init 19 = .ok (.putfield 13, 3) := by decide +kernel
theorem dX8_init_22 : decode cX8_init 22 = .ok (.aload_n 0, 1) := by decide +kernel
theorem dX8_init_23 : decode cX8_init 23 = .ok (.sipush 181, 3) := by decide +kernel
theorem dX8_init_26 : decode cX8_init 26 = .ok (.newarray .int, 2) := by decide +kernel
theorem dX8_init_28 : decode cX8_init 28 = .ok (.putfield 16, 3) := by decide +kernel
theorem dX8_init_31 : decode cX8_init 31 = .ok (.aload_n 0, 1) := by decide +kernel
theorem dX8_init_32 : decode cX8_init 32 = .ok (.sipush 181, 3) := by decide +kernel
theorem dX8_init_35 : decode cX8_init 35 = .ok (.newarray .int, 2) := by decide +kernel
theorem dX8_init_37 : decode cX8_init 37 = .ok (.putfield 19, 3) := by decide +kernel
theorem dX8_init_40 : decode cX8_init 40 = .ok (.aload_n 0, 1) := by decide +kernel
theorem dX8_init_41 : decode cX8_init 41 = .ok (.bipush 60, 2) := by decide +kernel
theorem dX8_init_43 : decode cX8_init 43 = .ok (.newarray .char, 2) := by decide +kernel
theorem dX8_init_45 : decode cX8_init 45 = .ok (.putfield 22, 3) := by decide +kernel
theorem dX8_init_48 : decode cX8_init 48 = .ok (.aload_n 0, 1) := by decide +kernel
theorem dX8_init_49 : decode cX8_init 49 = .ok (.bipush 16, 2) := by decide +kernel
theorem dX8_init_51 : decode cX8_init 51 = .ok (.newarray .int, 2) := by decide +kernel
theorem dX8_init_53 : decode cX8_init 53 = .ok (.putfield 26, 3) := by decide +kernel
theorem dX8_init_56 : decode cX8_init 56 = .ok (.aload_n 0, 1) := by decide +kernel
theorem dX8_init_57 : decode cX8_init 57 = .ok (.iconst 5, 1) := by decide +kernel
theorem dX8_init_58 : decode cX8_init 58 = .ok (.newarray .int, 2) := by decide +kernel
theorem dX8_init_60 : decode cX8_init 60 = .ok (.putfield 29, 3) := by decide +kernel
theorem dX8_init_63 : decode cX8_init 63 = .ok (.aload_n 0, 1) := by decide +kernel
theorem dX8_init_64 : decode cX8_init 64 = .ok (.bipush 16, 2) := by decide +kernel
theorem dX8_init_66 : decode cX8_init 66 = .ok (.newarray .int, 2) := by decide +kernel
theorem dX8_init_68 : decode cX8_init 68 = .ok (.putfield 32, 3) := by decide +kernel
theorem dX8_init_71 : decode cX8_init 71 = .ok (.aload_n 0, 1) := by decide +kernel
theorem dX8_init_72 : decode cX8_init 72 = .ok (.bipush 16, 2) := by decide +kernel
theorem dX8_init_74 : decode cX8_init 74 = .ok (.newarray .int, 2) := by decide +kernel
theorem dX8_init_76 : decode cX8_init 76 = .ok (.putfield 35, 3) := by decide +kernel
theorem dX8_init_79 : decode cX8_init 79 = .ok (.aload_n 0, 1) := by decide +kernel
theorem dX8_init_80 : decode cX8_init 80 = .ok (.bipush 16, 2) := by decide +kernel
theorem dX8_init_82 : decode cX8_init 82 = .ok (.newarray .int, 2) := by decide +kernel
theorem dX8_init_84 : decode cX8_init 84 = .ok (.putfield 38, 3) := by decide +kernel
theorem dX8_init_87 : decode cX8_init 87 = .ok (.aload_n 0, 1) := by decide +kernel
theorem dX8_init_88 : decode cX8_init 88 = .ok (.getfield 7, 3) := by decide +kernel
theorem dX8_init_91 : decode cX8_init 91 = .ok (.iconst 2, 1) := by decide +kernel
theorem dX8_init_92 : decode cX8_init 92 = .ok (.bipush 60, 2) := by decide +kernel
theorem dX8_init_94 : decode cX8_init 94 = .ok (.iastore, 1) := by decide +kernel
theorem dX8_init_95 : decode cX8_init 95 = .ok (.aload_n 0, 1) := by decide +kernel
theorem dX8_init_96 : decode cX8_init 96 = .ok (.getfield 7, 3) := by decide +kernel
theorem dX8_init_99 : decode cX8_init 99 = .ok (.iconst 3, 1) := by decide +kernel
theorem dX8_init_100 : decode cX8_init 100 = .ok (.bipush 40, 2) := by decide +kernel
theorem dX8_init_102 : decode cX8_init 102 = .ok (.iastore, 1) := by decide +kernel
theorem dX8_init_103 : decode cX8_init 103 = .ok (.aload_n 0, 1) := by decide +kernel
theorem dX8_init_104 : decode cX8_init 104 = .ok (.getfield 7, 3) := by decide +kernel
theorem dX8_init_107 : decode cX8_init 107 = .ok (.iconst 4, 1) := by decide +kernel
theorem dX8_init_108 : decode cX8_init 108 = .ok (.bipush 10, 2) := by decide +kernel
theorem dX8_init_110 : decode cX8_init 110 = .ok (.iastore, 1) := by decide +kernel
theorem dX8_init_111 : decode cX8_init 111 = .ok (.aload_n 0, 1) := by decide +kernel
theorem dX8_init_112 : decode cX8_init 112 = .ok (.getfield 7, 3) := by decide +kernel
theorem dX8_init_115 : decode cX8_init 115 = .ok (.iconst 5, 1) := by decide +kernel
theorem dX8_init_116 : decode cX8_init 116 = .ok (.iconst 5, 1) := by decide +kernel
theorem dX8_init_117 : decode cX8_init 117 = .ok (.iastore, 1) := by decide +kernel
theorem dX8_init_118 : decode cX8_init 118 = .ok (.aload_n 0, 1) := by decide +kernel
theorem dX8_init_119 : decode cX8_init 119 = .ok (.getfield 7, 3) := by decide +kernel
theorem dX8_init_122 : decode cX8_init 122 = .ok (.bipush 6, 2) := by decide +kernel
theorem dX8_init_124 : decode cX8_init 124 = .ok (.iconst 4, 1) := by decide +kernel
theorem dX8_init_125 : decode cX8_init 125 = .ok (.iastore, 1) := by decide +kernel
theorem dX8_init_126 : decode cX8_init 126 = .ok (.aload_n 0, 1) := by decide +kernel
theorem dX8_init_127 : decode cX8_init 127 = .ok (.getfield 7, 3) := by decide +kernel
theorem dX8_init_130 : decode cX8_init 130 = .ok (.bipush 8, 2) := by decide +kernel
theorem dX8_init_132 : decode cX8_init 132 = .ok (.iconst (-1), 1) := by decide +kernel
theorem dX8_init_133 : decode cX8_init 133 = .ok (.iastore, 1) := by decide +kernel
theorem dX8_init_134 : decode cX8_init 134 = .ok (.return_, 1) := by decide +kernel
theorem dX8_in_0 : decode cX8_in 0 = .ok (.iload_n 0, 1) := by decide +kernel
theorem dX8_in_1 : decode cX8_in 1 = .ok (.iload_n 1, 1) := by decide +kernel
theorem dX8_in_2 : decode cX8_in 2 = .ok (.if_icmp .lt 12, 3) := by decide +kernel
theorem dX8_in_5 : decode cX8_in 5 = .ok (.iload_n 0, 1) := by decide +kernel
theorem dX8_in_6 : decode cX8_in 6 = .ok (.iload_n 2, 1) := by decide +kernel
theorem dX8_in_7 : decode cX8_in 7 = .ok (.if_icmp .gt 7, 3) := by decide +kernel
theorem dX8_in_10 : decode cX8_in 10 = .ok (.iconst 1, 1) := by decide +kernel
theorem dX8_in_11 : decode cX8_in 11 = .ok (.goto 4, 3) := by decide +kernel
theorem dX8_in_14 : decode cX8_in 14 = .ok (.iconst 0, 1) := by decide +kernel
theorem dX8_in_15 : decode cX8_in 15 = .ok (.ireturn, 1) := by decide +kernel
theorem dX8_apart_0 : decode cX8_apart 0 = .ok (.iload_n 0, 1) := by decide +kernel
theorem dX8_apart_1 : decode cX8_apart 1 = .ok (.iload_n 1, 1) := by decide +kernel
theorem dX8_apart_2 : decode cX8_apart 2 = .ok (.if_icmp .ge 9, 3) := by decide +kernel
theorem dX8_apart_5 : decode cX8_apart 5 = .ok (.iload_n 1, 1) := by decide +kernel
theorem dX8_apart_6 : decode cX8_apart 6 = .ok (.iload_n 0, 1) := by decide +kernel
theorem dX8_apart_7 : decode cX8_apart 7 = .ok (.isub, 1) := by decide +kernel
theorem dX8_apart_8 : decode cX8_apart 8 = .ok (.goto 6, 3) := by decide +kernel
theorem dX8_apart_11 : decode cX8_apart 11 = .ok (.iload_n 0, 1) := by decide +kernel
theorem dX8_apart_12 : decode cX8_apart 12 = .ok (.iload_n 1, 1) := by decide +kernel
theorem dX8_apart_13 : decode cX8_apart 13 = .ok (.isub, 1) := by decide +kernel
theorem dX8_apart_14 : decode cX8_apart 14 = .ok (.ireturn, 1) := by decide +kernel
theorem dX8_pn_0 : decode cX8_pn 0 = .ok (.aload_n 0, 1) := by decide +kernel
theorem dX8_pn_1 : decode cX8_pn 1 = .ok (.getfield 7, 3) := by decide +kernel
theorem dX8_pn_4 : decode cX8_pn 4 = .ok (.bipush 13, 2) := by decide +kernel
theorem dX8_pn_6 : decode cX8_pn 6 = .ok (.bipush 8, 2) := by decide +kernel
theorem dX8_pn_8 : decode cX8_pn 8 = .ok (.iload_n 1, 1) := by decide +kernel
theorem dX8_pn_9 : decode cX8_pn 9 = .ok (.imul, 1) := by decide +kernel
theorem dX8_pn_10 : decode cX8_pn 10 = .ok (.iadd, 1) := by decide +kernel
theorem dX8_pn_11 : decode cX8_pn 11 = .ok (.iload_n 2, 1) := by decide +kernel
theorem dX8_pn_12 : decode cX8_pn 12 = .ok (.iadd, 1) := by decide +kernel
theorem dX8_pn_13 : decode cX8_pn 13 = .ok (.iaload, 1) := by decide +kernel
theorem dX8_pn_14 : decode cX8_pn 14 = .ok (.ireturn, 1) := by decide +kernel
theorem dX8_lays_0 : decode cX8_lays 0 = .ok (.aload_n 0, 1) := by decide +kernel
theorem dX8_lays_1 : decode cX8_lays 1 = .ok (.getfield 7, 3) := by decide +kernel
theorem dX8_lays_4 : decode cX8_lays 4 = .ok (.bipush 13, 2) := by decide +kernel
theorem dX8_lays_6 : decode cX8_lays 6 = .ok (.bipush 8, 2) := by decide +kernel
theorem dX8_lays_8 : decode cX8_lays 8 = .ok (.iload_n 1, 1) := by decide +kernel
theorem dX8_lays_9 : decode cX8_lays 9 = .ok (.imul, 1) := by decide +kernel
theorem dX8_lays_10 : decode cX8_lays 10 = .ok (.iadd, 1) := by decide +kernel
theorem dX8_lays_11 : decode cX8_lays 11 = .ok (.iload_n 2, 1) := by decide +kernel
theorem dX8_lays_12 : decode cX8_lays 12 = .ok (.iadd, 1) := by decide +kernel
theorem dX8_lays_13 : decode cX8_lays 13 = .ok (.iload_n 3, 1) := by decide +kernel
theorem dX8_lays_14 : decode cX8_lays 14 = .ok (.iastore, 1) := by decide +kernel
theorem dX8_lays_15 : decode cX8_lays 15 = .ok (.return_, 1) := by decide +kernel
theorem dX8_ln_0 : decode cX8_ln 0 = .ok (.aload_n 0, 1) := by decide +kernel
theorem dX8_ln_1 : decode cX8_ln 1 = .ok (.getfield 7, 3) := by decide +kernel
theorem dX8_ln_4 : decode cX8_ln 4 = .ok (.bipush 53, 2) := by decide +kernel
theorem dX8_ln_6 : decode cX8_ln 6 = .ok (.bipush 8, 2) := by decide +kernel
theorem dX8_ln_8 : decode cX8_ln 8 = .ok (.iload_n 1, 1) := by decide +kernel
theorem dX8_ln_9 : decode cX8_ln 9 = .ok (.imul, 1) := by decide +kernel
theorem dX8_ln_10 : decode cX8_ln 10 = .ok (.iadd, 1) := by decide +kernel
theorem dX8_ln_11 : decode cX8_ln 11 = .ok (.iload_n 2, 1) := by decide +kernel
theorem dX8_ln_12 : decode cX8_ln 12 = .ok (.iadd, 1) := by decide +kernel
theorem dX8_ln_13 : decode cX8_ln 13 = .ok (.iaload, 1) := by decide +kernel
theorem dX8_ln_14 : decode cX8_ln 14 = .ok (.ireturn, 1) := by decide +kernel
theorem dX8_isPen_0 : decode cX8_isPen 0 = .ok (.iload_n 1, 1) := by decide +kernel
theorem dX8_isPen_1 : decode cX8_isPen 1 = .ok (.iconst 0, 1) := by decide +kernel
theorem dX8_isPen_2 : decode cX8_isPen 2 = .ok (.aload_n 0, 1) := by decide +kernel
theorem dX8_isPen_3 : decode cX8_isPen 3 = .ok (.getfield 7, 3) := by decide +kernel
theorem dX8_isPen_6 : decode cX8_isPen 6 = .ok (.iconst 0, 1) := by decide +kernel
theorem dX8_isPen_7 : decode cX8_isPen 7 = .ok (.iaload, 1) := by decide +kernel
theorem dX8_isPen_8 : decode cX8_isPen 8 = .ok (.iconst 1, 1) := by decide +kernel
theorem dX8_isPen_9 : decode cX8_isPen 9 = .ok (.isub, 1) := by decide +kernel
theorem dX8_isPen_10 : decode cX8_isPen 10 = .ok (.invokestatic 41, 3) := by decide +kernel
theorem dX8_isPen_13 : decode cX8_isPen 13 = .ok (.ireturn, 1) := by decide +kernel
theorem dX8_isLine_0 : decode cX8_isLine 0 = .ok (.iload_n 1, 1) := by decide +kernel
theorem dX8_isLine_1 : decode cX8_isLine 1 = .ok (.iconst 0, 1) := by decide +kernel
theorem dX8_isLine_2 : decode cX8_isLine 2 = .ok (.aload_n 0, 1) := by decide +kernel
theorem dX8_isLine_3 : decode cX8_isLine 3 = .ok (.getfield 7, 3) := by decide +kernel
theorem dX8_isLine_6 : decode cX8_isLine 6 = .ok (.iconst 1, 1) := by decide +kernel
theorem dX8_isLine_7 : decode cX8_isLine 7 = .ok (.iaload, 1) := by decide +kernel
theorem dX8_isLine_8 : decode cX8_isLine 8 = .ok (.iconst 1, 1) := by decide +kernel
theorem dX8_isLine_9 : decode cX8_isLine 9 = .ok (.isub, 1) := by decide +kernel
theorem dX8_isLine_10 : decode cX8_isLine 10 = .ok (.invokestatic 41, 3) := by decide +kernel
theorem dX8_isLine_13 : decode cX8_isLine 13 = .ok (.ireturn, 1) := by decide +kernel
theorem dX8_isDrawn_0 : decode cX8_isDrawn 0 = .ok (.aload_n 0, 1) := by decide +kernel
theorem dX8_isDrawn_1 : decode cX8_isDrawn 1 = .ok (.iload_n 1, 1) := by decide +kernel
theorem dX8_isDrawn_2 : decode cX8_isDrawn 2 = .ok (.iconst 4, 1) := by decide +kernel
theorem dX8_isDrawn_3 : decode cX8_isDrawn 3 = .ok (.invokevirtual 45, 3) := by decide +kernel
theorem dX8_isDrawn_6 : decode cX8_isDrawn 6 = .ok (.ifCond .lt 7, 3) := by decide +kernel
theorem dX8_isDrawn_9 : decode cX8_isDrawn 9 = .ok (.iconst 1, 1) := by decide +kernel
theorem dX8_isDrawn_10 : decode cX8_isDrawn 10 = .ok (.goto 4, 3) := by decide +kernel
theorem dX8_isDrawn_13 : decode cX8_isDrawn 13 = .ok (.iconst 0, 1) := by decide +kernel
theorem dX8_isDrawn_14 : decode cX8_isDrawn 14 = .ok (.ireturn, 1) := by decide +kernel
theorem dX8_keeps_0 : decode cX8_keeps 0 = .ok (.iconst 0, 1) := by decide +kernel
theorem dX8_keeps_1 : decode cX8_keeps 1 = .ok (.istore_n 1, 1) := by decide +kernel
theorem dX8_keeps_2 : decode cX8_keeps 2 = .ok (.iload_n 1, 1) := by decide +kernel
theorem dX8_keeps_3 : decode cX8_keeps 3 = .ok (.sipush 181, 3) := by decide +kernel
theorem dX8_keeps_6 : decode cX8_keeps 6 = .ok (.if_icmp .ge 21, 3) := by decide +kernel
theorem dX8_keeps_9 : decode cX8_keeps 9 = .ok (.aload_n 0, 1) := by decide +kernel
theorem dX8_keeps_10 : decode cX8_keeps 10 = .ok (.getfield 16, 3) := by decide +kernel
theorem dX8_keeps_13 : decode cX8_keeps 13 = .ok (.iload_n 1, 1) := by decide +kernel
theorem dX8_keeps_14 : decode cX8_keeps 14 = .ok (.aload_n 0, 1) := by decide +kernel
theorem dX8_keeps_15 : decode cX8_keeps 15 = .ok (.getfield 7, 3) := by decide +kernel
theorem dX8_keeps_18 : decode cX8_keeps 18 = .ok (.iload_n 1, 1) := by decide +kernel
theorem dX8_keeps_19 : decode cX8_keeps 19 = .ok (.iaload, 1) := by decide +kernel
theorem dX8_keeps_20 : decode cX8_keeps 20 = .ok (.iastore, 1) := by decide +kernel
theorem dX8_keeps_21 : decode cX8_keeps 21 = .ok (.iinc 1 1, 3) := by decide +kernel
theorem dX8_keeps_24 : decode cX8_keeps 24 = .ok (.goto (-22), 3) := by decide +kernel
theorem dX8_keeps_27 : decode cX8_keeps 27 = .ok (.return_, 1) := by decide +kernel
theorem dX8_acted_0 : decode cX8_acted 0 = .ok (.iload_n 1, 1) := by decide +kernel
theorem dX8_acted_1 : decode cX8_acted 1 = .ok (.ldc 49, 2) := by decide +kernel
theorem dX8_acted_3 : decode cX8_acted 3 = .ok (.if_icmp .le 98, 3) := by decide +kernel
theorem dX8_acted_6 : decode cX8_acted 6 = .ok (.aload_n 0, 1) := by decide +kernel
theorem dX8_acted_7 : decode cX8_acted 7 = .ok (.getfield 50, 3) := by decide +kernel
theorem dX8_acted_10 : decode cX8_acted 10 = .ok (.iconst 4, 1) := by decide +kernel
theorem dX8_acted_11 : decode cX8_acted 11 = .ok (.if_icmp .ne 44, 3) := by decide +kernel
theorem dX8_acted_14 : decode cX8_acted 14 = .ok (.iconst 0, 1) := by decide +kernel
theorem dX8_acted_15 : decode cX8_acted 15 = .ok (.istore_n 2, 1) := by decide +kernel
theorem dX8_acted_16 : decode cX8_acted 16 = .ok (.iload_n 2, 1) := by decide +kernel
theorem dX8_acted_17 : decode cX8_acted 17 = .ok (.sipush 543, 3) := by decide +kernel
theorem dX8_acted_20 : decode cX8_acted 20 = .ok (.if_icmp .ge 25, 3) := by decide +kernel
theorem dX8_acted_23 : decode cX8_acted 23 = .ok (.aload_n 0, 1) := by decide +kernel
theorem dX8_acted_24 : decode cX8_acted 24 = .ok (.getfield 13, 3) := by decide +kernel
theorem dX8_acted_27 : decode cX8_acted 27 = .ok (.iload_n 2, 1) := by decide +kernel
theorem dX8_acted_28 : decode cX8_acted 28 = .ok (.aload_n 0, 1) := by decide +kernel
theorem dX8_acted_29 : decode cX8_acted 29 = .ok (.getfield 13, 3) := by decide +kernel
theorem dX8_acted_32 : decode cX8_acted 32 = .ok (.iload_n 2, 1) := by decide +kernel
theorem dX8_acted_33 : decode cX8_acted 33 = .ok (.sipush 181, 3) := by decide +kernel
theorem dX8_acted_36 : decode cX8_acted 36 = .ok (.iadd, 1) := by decide +kernel
theorem dX8_acted_37 : decode cX8_acted 37 = .ok (.iaload, 1) := by decide +kernel
theorem dX8_acted_38 : decode cX8_acted 38 = .ok (.iastore, 1) := by decide +kernel
theorem dX8_acted_39 : decode cX8_acted 39 = .ok (.iinc 2 1, 3) := by decide +kernel
theorem dX8_acted_42 : decode cX8_acted 42 = .ok (.goto (-26), 3) := by decide +kernel
theorem dX8_acted_45 : decode cX8_acted 45 = .ok (.aload_n 0, 1) := by decide +kernel
theorem dX8_acted_46 : decode cX8_acted 46 = .ok (.dup, 1) := by decide +kernel
theorem dX8_acted_47 : decode cX8_acted 47 = .ok (.getfield 50, 3) := by decide +kernel
theorem dX8_acted_50 : decode cX8_acted 50 = .ok (.iconst 1, 1) := by decide +kernel
theorem dX8_acted_51 : decode cX8_acted 51 = .ok (.isub, 1) := by decide +kernel
theorem dX8_acted_52 : decode cX8_acted 52 = .ok (.putfield 50, 3) := by decide +kernel
theorem dX8_acted_55 : decode cX8_acted 55 = .ok (.iconst 0, 1) := by decide +kernel
theorem dX8_acted_56 : decode cX8_acted 56 = .ok (.istore_n 2, 1) := by decide +kernel
theorem dX8_acted_57 : decode cX8_acted 57 = .ok (.iload_n 2, 1) := by decide +kernel
theorem dX8_acted_58 : decode cX8_acted 58 = .ok (.sipush 181, 3) := by decide +kernel
theorem dX8_acted_61 : decode cX8_acted 61 = .ok (.if_icmp .ge 30, 3) := by decide +kernel
theorem dX8_acted_64 : decode cX8_acted 64 = .ok (.aload_n 0, 1) := by decide +kernel
theorem dX8_acted_65 : decode cX8_acted 65 = .ok (.getfield 13, 3) := by decide +kernel
theorem dX8_acted_68 : decode cX8_acted 68 = .ok (.sipush 181, 3) := by decide +kernel
theorem dX8_acted_71 : decode cX8_acted 71 = .ok (.aload_n 0, 1) := by decide +kernel
theorem dX8_acted_72 : decode cX8_acted 72 = .ok (.getfield 50, 3) := by decide +kernel
theorem dX8_acted_75 : decode cX8_acted 75 = .ok (.imul, 1) := by decide +kernel
theorem dX8_acted_76 : decode cX8_acted 76 = .ok (.iload_n 2, 1) := by decide +kernel
theorem dX8_acted_77 : decode cX8_acted 77 = .ok (.iadd, 1) := by decide +kernel
theorem dX8_acted_78 : decode cX8_acted 78 = .ok (.aload_n 0, 1) := by decide +kernel
theorem dX8_acted_79 : decode cX8_acted 79 = .ok (.getfield 16, 3) := by decide +kernel
theorem dX8_acted_82 : decode cX8_acted 82 = .ok (.iload_n 2, 1) := by decide +kernel
theorem dX8_acted_83 : decode cX8_acted 83 = .ok (.iaload, 1) := by decide +kernel
theorem dX8_acted_84 : decode cX8_acted 84 = .ok (.iastore, 1) := by decide +kernel
theorem dX8_acted_85 : decode cX8_acted 85 = .ok (.iinc 2 1, 3) := by decide +kernel
theorem dX8_acted_88 : decode cX8_acted 88 = .ok (.goto (-31), 3) := by decide +kernel
theorem dX8_acted_91 : decode cX8_acted 91 = .ok (.aload_n 0, 1) := by decide +kernel
theorem dX8_acted_92 : decode cX8_acted 92 = .ok (.dup, 1) := by decide +kernel
theorem dX8_acted_93 : decode cX8_acted 93 = .ok (.getfield 50, 3) := by decide +kernel
theorem dX8_acted_96 : decode cX8_acted 96 = .ok (.iconst 1, 1) := by decide +kernel
theorem dX8_acted_97 : decode cX8_acted 97 = .ok (.iadd, 1) := by decide +kernel
theorem dX8_acted_98 : decode cX8_acted 98 = .ok (.putfield 50, 3) := by decide +kernel
theorem dX8_acted_101 : decode cX8_acted 101 = .ok (.iload_n 1, 1) := by decide +kernel
theorem dX8_acted_102 : decode cX8_acted 102 = .ok (.ireturn, 1) := by decide +kernel
theorem dX8_set_0 : decode cX8_set 0 = .ok (.iload_n 1, 1) := by decide +kernel
theorem dX8_set_1 : decode cX8_set 1 = .ok (.ifCond .ne 9, 3) := by decide +kernel
theorem dX8_set_4 : decode cX8_set 4 = .ok (.sipush 500, 3) := by decide +kernel
theorem dX8_set_7 : decode cX8_set 7 = .ok (.goto 26, 3) := by decide +kernel
theorem dX8_set_10 : decode cX8_set 10 = .ok (.iload_n 1, 1) := by decide +kernel
theorem dX8_set_11 : decode cX8_set 11 = .ok (.iconst 1, 1) := by decide +kernel
theorem dX8_set_12 : decode cX8_set 12 = .ok (.if_icmp .ne 9, 3) := by decide +kernel
theorem dX8_set_15 : decode cX8_set 15 = .ok (.sipush 200, 3) := by decide +kernel
theorem dX8_set_18 : decode cX8_set 18 = .ok (.goto 15, 3) := by decide +kernel
theorem dX8_set_21 : decode cX8_set 21 = .ok (.iload_n 1, 1) := by decide +kernel
theorem dX8_set_22 : decode cX8_set 22 = .ok (.iconst 2, 1) := by decide +kernel
theorem dX8_set_23 : decode cX8_set 23 = .ok (.if_icmp .ne 8, 3) := by decide +kernel
theorem dX8_set_26 : decode cX8_set 26 = .ok (.bipush 100, 2) := by decide +kernel
theorem dX8_set_28 : decode cX8_set 28 = .ok (.goto 5, 3) := by decide +kernel
theorem dX8_set_31 : decode cX8_set 31 = .ok (.bipush 50, 2) := by decide +kernel
theorem dX8_set_33 : decode cX8_set 33 = .ok (.istore_n 3, 1) := by decide +kernel
theorem dX8_set_34 : decode cX8_set 34 = .ok (.iload_n 1, 1) := by decide +kernel
theorem dX8_set_35 : decode cX8_set 35 = .ok (.iconst 0, 1) := by decide +kernel
theorem dX8_set_36 : decode cX8_set 36 = .ok (.iconst 4, 1) := by decide +kernel
theorem dX8_set_37 : decode cX8_set 37 = .ok (.invokestatic 41, 3) := by decide +kernel
theorem dX8_set_40 : decode cX8_set 40 = .ok (.ifCond .eq 21, 3) := by decide +kernel
theorem dX8_set_43 : decode cX8_set 43 = .ok (.iload_n 2, 1) := by decide +kernel
theorem dX8_set_44 : decode cX8_set 44 = .ok (.iload_n 1, 1) := by decide +kernel
theorem dX8_set_45 : decode cX8_set 45 = .ok (.iconst 1, 1) := by decide +kernel
theorem dX8_set_46 : decode cX8_set 46 = .ok (.if_icmp .ne 7, 3) := by decide +kernel
theorem dX8_set_49 : decode cX8_set 49 = .ok (.iconst 1, 1) := by decide +kernel
theorem dX8_set_50 : decode cX8_set 50 = .ok (.goto 4, 3) := by decide +kernel
theorem dX8_set_53 : decode cX8_set 53 = .ok (.iconst 0, 1) := by decide +kernel
theorem dX8_set_54 : decode cX8_set 54 = .ok (.iload_n 3, 1) := by decide +kernel
theorem dX8_set_55 : decode cX8_set 55 = .ok (.invokestatic 41, 3) := by decide +kernel
theorem dX8_set_58 : decode cX8_set 58 = .ok (.ifCond .ne 6, 3) := by decide +kernel
theorem dX8_set_61 : decode cX8_set 61 = .ok (.ldc 49, 2) := by decide +kernel
theorem dX8_set_63 : decode cX8_set 63 = .ok (.ireturn, 1) := by decide +kernel
theorem dX8_set_64 : decode cX8_set 64 = .ok (.aload_n 0, 1) := by decide +kernel
theorem dX8_set_65 : decode cX8_set 65 = .ok (.invokevirtual 54, 3) := by decide +kernel
theorem dX8_set_68 : decode cX8_set 68 = .ok (.aload_n 0, 1) := by decide +kernel
theorem dX8_set_69 : decode cX8_set 69 = .ok (.getfield 7, 3) := by decide +kernel
theorem dX8_set_72 : decode cX8_set 72 = .ok (.iconst 2, 1) := by decide +kernel
theorem dX8_set_73 : decode cX8_set 73 = .ok (.iload_n 1, 1) := by decide +kernel
theorem dX8_set_74 : decode cX8_set 74 = .ok (.iadd, 1) := by decide +kernel
theorem dX8_set_75 : decode cX8_set 75 = .ok (.iaload, 1) := by decide +kernel
theorem dX8_set_76 : decode cX8_set 76 = .ok (.istore 4, 2) := by decide +kernel
theorem dX8_set_78 : decode cX8_set 78 = .ok (.aload_n 0, 1) := by decide +kernel
theorem dX8_set_79 : decode cX8_set 79 = .ok (.getfield 7, 3) := by decide +kernel
theorem dX8_set_82 : decode cX8_set 82 = .ok (.iconst 2, 1) := by decide +kernel
theorem dX8_set_83 : decode cX8_set 83 = .ok (.iload_n 1, 1) := by decide +kernel
theorem dX8_set_84 : decode cX8_set 84 = .ok (.iadd, 1) := by decide +kernel
theorem dX8_set_85 : decode cX8_set 85 = .ok (.iload_n 2, 1) := by decide +kernel
theorem dX8_set_86 : decode cX8_set 86 = .ok (.iastore, 1) := by decide +kernel
theorem dX8_set_87 : decode cX8_set 87 = .ok (.aload_n 0, 1) := by decide +kernel
theorem dX8_set_88 : decode cX8_set 88 = .ok (.iload 4, 2) := by decide +kernel
theorem dX8_set_90 : decode cX8_set 90 = .ok (.invokevirtual 57, 3) := by decide +kernel
theorem dX8_set_93 : decode cX8_set 93 = .ok (.ireturn, 1) := by decide +kernel
theorem dX8_pen_0 : decode cX8_pen 0 = .ok (.iload_n 1, 1) := by decide +kernel
theorem dX8_pen_1 : decode cX8_pen 1 = .ok (.iconst 0, 1) := by decide +kernel
theorem dX8_pen_2 : decode cX8_pen 2 = .ok (.iconst 1, 1) := by decide +kernel
theorem dX8_pen_3 : decode cX8_pen 3 = .ok (.invokestatic 41, 3) := by decide +kernel
theorem dX8_pen_6 : decode cX8_pen 6 = .ok (.ifCond .eq 34, 3) := by decide +kernel
theorem dX8_pen_9 : decode cX8_pen 9 = .ok (.iload_n 2, 1) := by decide +kernel
theorem dX8_pen_10 : decode cX8_pen 10 = .ok (.bipush 10, 2) := by decide +kernel
theorem dX8_pen_12 : decode cX8_pen 12 = .ok (.sipush 5000, 3) := by decide +kernel
theorem dX8_pen_15 : decode cX8_pen 15 = .ok (.invokestatic 41, 3) := by decide +kernel
theorem dX8_pen_18 : decode cX8_pen 18 = .ok (.ifCond .eq 22, 3) := by decide +kernel
theorem dX8_pen_21 : decode cX8_pen 21 = .ok (.iload_n 3, 1) := by decide +kernel
theorem dX8_pen_22 : decode cX8_pen 22 = .ok (.iconst 0, 1) := by decide +kernel
theorem dX8_pen_23 : decode cX8_pen 23 = .ok (.iconst 2, 1) := by decide +kernel
theorem dX8_pen_24 : decode cX8_pen 24 = .ok (.invokestatic 41, 3) := by decide +kernel
theorem dX8_pen_27 : decode cX8_pen 27 = .ok (.ifCond .eq 13, 3) := by decide +kernel
theorem dX8_pen_30 : decode cX8_pen 30 = .ok (.iload 4, 2) := by decide +kernel
theorem dX8_pen_32 : decode cX8_pen 32 = .ok (.iconst 0, 1) := by decide +kernel
theorem dX8_pen_33 : decode cX8_pen 33 = .ok (.iconst 1, 1) := by decide +kernel
theorem dX8_pen_34 : decode cX8_pen 34 = .ok (.invokestatic 41, 3) := by decide +kernel
theorem dX8_pen_37 : decode cX8_pen 37 = .ok (.ifCond .ne 6, 3) := by decide +kernel
theorem dX8_pen_40 : decode cX8_pen 40 = .ok (.ldc 49, 2) := by decide +kernel
theorem dX8_pen_42 : decode cX8_pen 42 = .ok (.ireturn, 1) := by decide +kernel
theorem dX8_pen_43 : decode cX8_pen 43 = .ok (.iload_n 3, 1) := by decide +kernel
theorem dX8_pen_44 : decode cX8_pen 44 = .ok (.iconst 2, 1) := by decide +kernel
theorem dX8_pen_45 : decode cX8_pen 45 = .ok (.if_icmp .eq 8, 3) := by decide +kernel
theorem dX8_pen_48 : decode cX8_pen 48 = .ok (.iload_n 3, 1) := by decide +kernel
theorem dX8_pen_49 : decode cX8_pen 49 = .ok (.iload_n 1, 1) := by decide +kernel
theorem dX8_pen_50 : decode cX8_pen 50 = .ok (.if_icmp .ne 7, 3) := by decide +kernel
theorem dX8_pen_53 : decode cX8_pen 53 = .ok (.iconst 1, 1) := by decide +kernel
theorem dX8_pen_54 : decode cX8_pen 54 = .ok (.goto 4, 3) := by decide +kernel
theorem dX8_pen_57 : decode cX8_pen 57 = .ok (.iconst 0, 1) := by decide +kernel
theorem dX8_pen_58 : decode cX8_pen 58 = .ok (.istore 5, 2) := by decide +kernel
theorem dX8_pen_60 : decode cX8_pen 60 = .ok (.iconst 0, 1) := by decide +kernel
theorem dX8_pen_61 : decode cX8_pen 61 = .ok (.istore 6, 2) := by decide +kernel
theorem dX8_pen_63 : decode cX8_pen 63 = .ok (.iload 6, 2) := by decide +kernel
theorem dX8_pen_65 : decode cX8_pen 65 = .ok (.aload_n 0, 1) := by decide +kernel
theorem dX8_pen_66 : decode cX8_pen 66 = .ok (.getfield 7, 3) := by decide +kernel
theorem dX8_pen_69 : decode cX8_pen 69 = .ok (.iconst 0, 1) := by decide +kernel
theorem dX8_pen_70 : decode cX8_pen 70 = .ok (.iaload, 1) := by decide +kernel
theorem dX8_pen_71 : decode cX8_pen 71 = .ok (.if_icmp .ge 38, 3) := by decide +kernel
theorem dX8_pen_74 : decode cX8_pen 74 = .ok (.iload 5, 2) := by decide +kernel
theorem dX8_pen_76 : decode cX8_pen 76 = .ok (.ifCond .eq 24, 3) := by decide +kernel
theorem dX8_pen_79 : decode cX8_pen 79 = .ok (.aload_n 0, 1) := by decide +kernel
theorem dX8_pen_80 : decode cX8_pen 80 = .ok (.iload 6, 2) := by decide +kernel
theorem dX8_pen_82 : decode cX8_pen 82 = .ok (.iconst 5, 1) := by decide +kernel
theorem dX8_pen_83 : decode cX8_pen 83 = .ok (.invokevirtual 61, 3) := by decide +kernel
theorem dX8_pen_86 : decode cX8_pen 86 = .ok (.bipush 10, 2) := by decide +kernel
theorem dX8_pen_88 : decode cX8_pen 88 = .ok (.iload_n 3, 1) := by decide +kernel
theorem dX8_pen_89 : decode cX8_pen 89 = .ok (.imul, 1) := by decide +kernel
theorem dX8_pen_90 : decode cX8_pen 90 = .ok (.iload 4, 2) := by decide +kernel
theorem dX8_pen_92 : decode cX8_pen 92 = .ok (.iadd, 1) := by decide +kernel
theorem dX8_pen_93 : decode cX8_pen 93 = .ok (.if_icmp .eq 7, 3) := by decide +kernel
theorem dX8_pen_96 : decode cX8_pen 96 = .ok (.iconst 1, 1) := by decide +kernel
theorem dX8_pen_97 : decode cX8_pen 97 = .ok (.goto 4, 3) := by decide +kernel
theorem dX8_pen_100 : decode cX8_pen 100 = .ok (.iconst 0, 1) := by decide +kernel
theorem dX8_pen_101 : decode cX8_pen 101 = .ok (.istore 5, 2) := by decide +kernel
theorem dX8_pen_103 : decode cX8_pen 103 = .ok (.iinc 6 1, 3) := by decide +kernel
theorem dX8_pen_106 : decode cX8_pen 106 = .ok (.goto (-43), 3) := by decide +kernel
theorem dX8_pen_109 : decode cX8_pen 109 = .ok (.iload 5, 2) := by decide +kernel
theorem dX8_pen_111 : decode cX8_pen 111 = .ok (.ifCond .ne 6, 3) := by decide +kernel
theorem dX8_pen_114 : decode cX8_pen 114 = .ok (.ldc 64, 2) := by decide +kernel
theorem dX8_pen_116 : decode cX8_pen 116 = .ok (.ireturn, 1) := by decide +kernel
theorem dX8_pen_117 : decode cX8_pen 117 = .ok (.aload_n 0, 1) := by decide +kernel
theorem dX8_pen_118 : decode cX8_pen 118 = .ok (.getfield 7, 3) := by decide +kernel
theorem dX8_pen_121 : decode cX8_pen 121 = .ok (.iconst 0, 1) := by decide +kernel
theorem dX8_pen_122 : decode cX8_pen 122 = .ok (.iaload, 1) := by decide +kernel
theorem dX8_pen_123 : decode cX8_pen 123 = .ok (.iconst 5, 1) := by decide +kernel
theorem dX8_pen_124 : decode cX8_pen 124 = .ok (.if_icmp .ne 6, 3) := by decide +kernel
theorem dX8_pen_127 : decode cX8_pen 127 = .ok (.ldc 65, 2) := by decide +kernel
theorem dX8_pen_129 : decode cX8_pen 129 = .ok (.ireturn, 1) := by decide +kernel
theorem dX8_pen_130 : decode cX8_pen 130 = .ok (.aload_n 0, 1) := by decide +kernel
theorem dX8_pen_131 : decode cX8_pen 131 = .ok (.invokevirtual 54, 3) := by decide +kernel
theorem dX8_pen_134 : decode cX8_pen 134 = .ok (.aload_n 0, 1) := by decide +kernel
theorem dX8_pen_135 : decode cX8_pen 135 = .ok (.getfield 7, 3) := by decide +kernel
theorem dX8_pen_138 : decode cX8_pen 138 = .ok (.iconst 0, 1) := by decide +kernel
theorem dX8_pen_139 : decode cX8_pen 139 = .ok (.iaload, 1) := by decide +kernel
theorem dX8_pen_140 : decode cX8_pen 140 = .ok (.istore 6, 2) := by decide +kernel
theorem dX8_pen_142 : decode cX8_pen 142 = .ok (.aload_n 0, 1) := by decide +kernel
theorem dX8_pen_143 : decode cX8_pen 143 = .ok (.getfield 7, 3) := by decide +kernel
theorem dX8_pen_146 : decode cX8_pen 146 = .ok (.iconst 0, 1) := by decide +kernel
theorem dX8_pen_147 : decode cX8_pen 147 = .ok (.dup2, 1) := by decide +kernel
theorem dX8_pen_148 : decode cX8_pen 148 = .ok (.iaload, 1) := by decide +kernel
theorem dX8_pen_149 : decode cX8_pen 149 = .ok (.iconst 1, 1) := by decide +kernel
theorem dX8_pen_150 : decode cX8_pen 150 = .ok (.iadd, 1) := by decide +kernel
theorem dX8_pen_151 : decode cX8_pen 151 = .ok (.iastore, 1) := by decide +kernel
theorem dX8_pen_152 : decode cX8_pen 152 = .ok (.iconst 0, 1) := by decide +kernel
theorem dX8_pen_153 : decode cX8_pen 153 = .ok (.istore 7, 2) := by decide +kernel
theorem dX8_pen_155 : decode cX8_pen 155 = .ok (.iload 7, 2) := by decide +kernel
theorem dX8_pen_157 : decode cX8_pen 157 = .ok (.bipush 8, 2) := by decide +kernel
theorem dX8_pen_159 : decode cX8_pen 159 = .ok (.if_icmp .ge 18, 3) := by decide +kernel
theorem dX8_pen_162 : decode cX8_pen 162 = .ok (.aload_n 0, 1) := by decide +kernel
theorem dX8_pen_163 : decode cX8_pen 163 = .ok (.iload 6, 2) := by decide +kernel
theorem dX8_pen_165 : decode cX8_pen 165 = .ok (.iload 7, 2) := by decide +kernel
theorem dX8_pen_167 : decode cX8_pen 167 = .ok (.iconst 0, 1) := by decide +kernel
theorem dX8_pen_168 : decode cX8_pen 168 = .ok (.invokevirtual 66, 3) := by decide +kernel
theorem dX8_pen_171 : decode cX8_pen 171 = .ok (.iinc 7 1, 3) := by decide +kernel
theorem dX8_pen_174 : decode cX8_pen 174 = .ok (.goto (-19), 3) := by decide +kernel
theorem dX8_pen_177 : decode cX8_pen 177 = .ok (.aload_n 0, 1) := by decide +kernel
theorem dX8_pen_178 : decode cX8_pen 178 = .ok (.iload 6, 2) := by decide +kernel
theorem dX8_pen_180 : decode cX8_pen 180 = .ok (.iconst 0, 1) := by decide +kernel
theorem dX8_pen_181 : decode cX8_pen 181 = .ok (.iload_n 1, 1) := by decide +kernel
theorem dX8_pen_182 : decode cX8_pen 182 = .ok (.invokevirtual 66, 3) := by decide +kernel
theorem dX8_pen_185 : decode cX8_pen 185 = .ok (.aload_n 0, 1) := by decide +kernel
theorem dX8_pen_186 : decode cX8_pen 186 = .ok (.iload 6, 2) := by decide +kernel
theorem dX8_pen_188 : decode cX8_pen 188 = .ok (.iconst 1, 1) := by decide +kernel
theorem dX8_pen_189 : decode cX8_pen 189 = .ok (.iload_n 2, 1) := by decide +kernel
theorem dX8_pen_190 : decode cX8_pen 190 = .ok (.invokevirtual 66, 3) := by decide +kernel
theorem dX8_pen_193 : decode cX8_pen 193 = .ok (.aload_n 0, 1) := by decide +kernel
theorem dX8_pen_194 : decode cX8_pen 194 = .ok (.iload 6, 2) := by decide +kernel
theorem dX8_pen_196 : decode cX8_pen 196 = .ok (.iconst 2, 1) := by decide +kernel
theorem dX8_pen_197 : decode cX8_pen 197 = .ok (.iload_n 2, 1) := by decide +kernel
theorem dX8_pen_198 : decode cX8_pen 198 = .ok (.invokevirtual 66, 3) := by decide +kernel
theorem dX8_pen_201 : decode cX8_pen 201 = .ok (.aload_n 0, 1) := by decide +kernel
theorem dX8_pen_202 : decode cX8_pen 202 = .ok (.iload 6, 2) := by decide +kernel
theorem dX8_pen_204 : decode cX8_pen 204 = .ok (.iconst 5, 1) := by decide +kernel
theorem dX8_pen_205 : decode cX8_pen 205 = .ok (.bipush 10, 2) := by decide +kernel
theorem dX8_pen_207 : decode cX8_pen 207 = .ok (.iload_n 3, 1) := by decide +kernel
theorem dX8_pen_208 : decode cX8_pen 208 = .ok (.imul, 1) := by decide +kernel
theorem dX8_pen_209 : decode cX8_pen 209 = .ok (.iload 4, 2) := by decide +kernel
theorem dX8_pen_211 : decode cX8_pen 211 = .ok (.iadd, 1) := by decide +kernel
theorem dX8_pen_212 : decode cX8_pen 212 = .ok (.invokevirtual 66, 3) := by decide +kernel
theorem dX8_pen_215 : decode cX8_pen 215 = .ok (.aload_n 0, 1) := by decide +kernel
theorem dX8_pen_216 : decode cX8_pen 216 = .ok (.iload 6, 2) := by decide +kernel
theorem dX8_pen_218 : decode cX8_pen 218 = .ok (.invokevirtual 57, 3) := by decide +kernel
theorem dX8_pen_221 : decode cX8_pen 221 = .ok (.ireturn, 1) := by decide +kernel
theorem dX8_isCoordinate_0 : decode cX8_isCoordinate 0 = .ok (.iload_n 0, 1) := by decide +kernel
theorem dX8_isCoordinate_1 : decode cX8_isCoordinate 1 = .ok (.iconst 0, 1) := by decide +kernel
theorem dX8_isCoordinate_2 : decode cX8_isCoordinate 2 = .ok (.bipush 99, 2) := by decide +kernel
theorem dX8_isCoordinate_4 : decode cX8_isCoordinate 4 = .ok (.invokestatic 41, 3) := by decide +kernel
theorem dX8_isCoordinate_7 : decode cX8_isCoordinate 7 = .ok (.ireturn, 1) := by decide +kernel
theorem dX8_line_0 : decode cX8_line 0 = .ok (.iload_n 1, 1) := by decide +kernel
theorem dX8_line_1 : decode cX8_line 1 = .ok (.invokestatic 70, 3) := by decide +kernel
theorem dX8_line_4 : decode cX8_line 4 = .ok (.ifCond .eq 36, 3) := by decide +kernel
theorem dX8_line_7 : decode cX8_line 7 = .ok (.iload_n 2, 1) := by decide +kernel
theorem dX8_line_8 : decode cX8_line 8 = .ok (.invokestatic 70, 3) := by decide +kernel
theorem dX8_line_11 : decode cX8_line 11 = .ok (.ifCond .eq 29, 3) := by decide +kernel
theorem dX8_line_14 : decode cX8_line 14 = .ok (.iload_n 3, 1) := by decide +kernel
theorem dX8_line_15 : decode cX8_line 15 = .ok (.invokestatic 70, 3) := by decide +kernel
theorem dX8_line_18 : decode cX8_line 18 = .ok (.ifCond .eq 22, 3) := by decide +kernel
theorem dX8_line_21 : decode cX8_line 21 = .ok (.iload 4, 2) := by decide +kernel
theorem dX8_line_23 : decode cX8_line 23 = .ok (.invokestatic 70, 3) := by decide +kernel
theorem dX8_line_26 : decode cX8_line 26 = .ok (.ifCond .eq 14, 3) := by decide +kernel
theorem dX8_line_29 : decode cX8_line 29 = .ok (.iload_n 1, 1) := by decide +kernel
theorem dX8_line_30 : decode cX8_line 30 = .ok (.iload_n 3, 1) := by decide +kernel
theorem dX8_line_31 : decode cX8_line 31 = .ok (.if_icmp .ne 12, 3) := by decide +kernel
theorem dX8_line_34 : decode cX8_line 34 = .ok (.iload_n 2, 1) := by decide +kernel
theorem dX8_line_35 : decode cX8_line 35 = .ok (.iload 4, 2) := by decide +kernel
theorem dX8_line_37 : decode cX8_line 37 = .ok (.if_icmp .ne 6, 3) := by decide +kernel
theorem dX8_line_40 : decode cX8_line 40 = .ok (.ldc 49, 2) := by decide +kernel
theorem dX8_line_42 : decode cX8_line 42 = .ok (.ireturn, 1) := by decide +kernel
theorem dX8_line_43 : decode cX8_line 43 = .ok (.aload_n 0, 1) := by decide +kernel
theorem dX8_line_44 : decode cX8_line 44 = .ok (.getfield 7, 3) := by decide +kernel
theorem dX8_line_47 : decode cX8_line 47 = .ok (.iconst 1, 1) := by decide +kernel
theorem dX8_line_48 : decode cX8_line 48 = .ok (.iaload, 1) := by decide +kernel
theorem dX8_line_49 : decode cX8_line 49 = .ok (.bipush 16, 2) := by decide +kernel
theorem dX8_line_51 : decode cX8_line 51 = .ok (.if_icmp .ne 6, 3) := by decide +kernel
theorem dX8_line_54 : decode cX8_line 54 = .ok (.ldc 65, 2) := by decide +kernel
theorem dX8_line_56 : decode cX8_line 56 = .ok (.ireturn, 1) := by decide +kernel
theorem dX8_line_57 : decode cX8_line 57 = .ok (.aload_n 0, 1) := by decide +kernel
theorem dX8_line_58 : decode cX8_line 58 = .ok (.invokevirtual 54, 3) := by decide +kernel
theorem dX8_line_61 : decode cX8_line 61 = .ok (.bipush 53, 2) := by decide +kernel
theorem dX8_line_63 : decode cX8_line 63 = .ok (.bipush 8, 2) := by decide +kernel
theorem dX8_line_65 : decode cX8_line 65 = .ok (.aload_n 0, 1) := by decide +kernel
theorem dX8_line_66 : decode cX8_line 66 = .ok (.getfield 7, 3) := by decide +kernel
theorem dX8_line_69 : decode cX8_line 69 = .ok (.iconst 1, 1) := by decide +kernel
theorem dX8_line_70 : decode cX8_line 70 = .ok (.iaload, 1) := by decide +kernel
theorem dX8_line_71 : decode cX8_line 71 = .ok (.imul, 1) := by decide +kernel
theorem dX8_line_72 : decode cX8_line 72 = .ok (.iadd, 1) := by decide +kernel
theorem dX8_line_73 : decode cX8_line 73 = .ok (.istore 5, 2) := by decide +kernel
theorem dX8_line_75 : decode cX8_line 75 = .ok (.aload_n 0, 1) := by decide +kernel
theorem dX8_line_76 : decode cX8_line 76 = .ok (.getfield 7, 3) := by decide +kernel
theorem dX8_line_79 : decode cX8_line 79 = .ok (.iload 5, 2) := by decide +kernel
theorem dX8_line_81 : decode cX8_line 81 = .ok (.iload_n 1, 1) := by decide +kernel
theorem dX8_line_82 : decode cX8_line 82 = .ok (.iastore, 1) := by decide +kernel
theorem dX8_line_83 : decode cX8_line 83 = .ok (.aload_n 0, 1) := by decide +kernel
theorem dX8_line_84 : decode cX8_line 84 = .ok (.getfield 7, 3) := by decide +kernel
theorem dX8_line_87 : decode cX8_line 87 = .ok (.iload 5, 2) := by decide +kernel
theorem dX8_line_89 : decode cX8_line 89 = .ok (.iconst 1, 1) := by decide +kernel
theorem dX8_line_90 : decode cX8_line 90 = .ok (.iadd, 1) := by decide +kernel
theorem dX8_line_91 : decode cX8_line 91 = .ok (.iload_n 2, 1) := by decide +kernel
theorem dX8_line_92 : decode cX8_line 92 = .ok (.iastore, 1) := by decide +kernel
theorem dX8_line_93 : decode cX8_line 93 = .ok (.aload_n 0, 1) := by decide +kernel
theorem dX8_line_94 : decode cX8_line 94 = .ok (.getfield 7, 3) := by decide +kernel
theorem dX8_line_97 : decode cX8_line 97 = .ok (.iload 5, 2) := by decide +kernel
theorem dX8_line_99 : decode cX8_line 99 = .ok (.iconst 2, 1) := by decide +kernel
theorem dX8_line_100 : decode cX8_line 100 = .ok (.iadd, 1) := by decide +kernel
theorem dX8_line_101 : decode cX8_line 101 = .ok (.iload_n 3, 1) := by decide +kernel
theorem dX8_line_102 : decode cX8_line 102 = .ok (.iastore, 1) := by decide +kernel
theorem dX8_line_103 : decode cX8_line 103 = .ok (.aload_n 0, 1) := by decide +kernel
theorem dX8_line_104 : decode cX8_line 104 = .ok (.getfield 7, 3) := by decide +kernel
theorem dX8_line_107 : decode cX8_line 107 = .ok (.iload 5, 2) := by decide +kernel
theorem dX8_line_109 : decode cX8_line 109 = .ok (.iconst 3, 1) := by decide +kernel
theorem dX8_line_110 : decode cX8_line 110 = .ok (.iadd, 1) := by decide +kernel
theorem dX8_line_111 : decode cX8_line 111 = .ok (.iload 4, 2) := by decide +kernel
theorem dX8_line_113 : decode cX8_line 113 = .ok (.iastore, 1) := by decide +kernel
theorem dX8_line_114 : decode cX8_line 114 = .ok (.aload_n 0, 1) := by decide +kernel
theorem dX8_line_115 : decode cX8_line 115 = .ok (.getfield 7, 3) := by decide +kernel
theorem dX8_line_118 : decode cX8_line 118 = .ok (.iload 5, 2) := by decide +kernel
theorem dX8_line_120 : decode cX8_line 120 = .ok (.iconst 4, 1) := by decide +kernel
theorem dX8_line_121 : decode cX8_line 121 = .ok (.iadd, 1) := by decide +kernel
theorem dX8_line_122 : decode cX8_line 122 = .ok (.iconst (-1), 1) := by decide +kernel
theorem dX8_line_123 : decode cX8_line 123 = .ok (.iastore, 1) := by decide +kernel
theorem dX8_line_124 : decode cX8_line 124 = .ok (.aload_n 0, 1) := by decide +kernel
theorem dX8_line_125 : decode cX8_line 125 = .ok (.getfield 7, 3) := by decide +kernel
theorem dX8_line_128 : decode cX8_line 128 = .ok (.iload 5, 2) := by decide +kernel
theorem dX8_line_130 : decode cX8_line 130 = .ok (.iconst 5, 1) := by decide +kernel
theorem dX8_line_131 : decode cX8_line 131 = .ok (.iadd, 1) := by decide +kernel
theorem dX8_line_132 : decode cX8_line 132 = .ok (.iconst 0, 1) := by decide +kernel
theorem dX8_line_133 : decode cX8_line 133 = .ok (.iastore, 1) := by decide +kernel
theorem dX8_line_134 : decode cX8_line 134 = .ok (.aload_n 0, 1) := by decide +kernel
theorem dX8_line_135 : decode cX8_line 135 = .ok (.getfield 7, 3) := by decide +kernel
theorem dX8_line_138 : decode cX8_line 138 = .ok (.iload 5, 2) := by decide +kernel
theorem dX8_line_140 : decode cX8_line 140 = .ok (.bipush 6, 2) := by decide +kernel
theorem dX8_line_142 : decode cX8_line 142 = .ok (.iadd, 1) := by decide +kernel
theorem dX8_line_143 : decode cX8_line 143 = .ok (.iconst 0, 1) := by decide +kernel
theorem dX8_line_144 : decode cX8_line 144 = .ok (.iastore, 1) := by decide +kernel
theorem dX8_line_145 : decode cX8_line 145 = .ok (.aload_n 0, 1) := by decide +kernel
theorem dX8_line_146 : decode cX8_line 146 = .ok (.getfield 7, 3) := by decide +kernel
theorem dX8_line_149 : decode cX8_line 149 = .ok (.iload 5, 2) := by decide +kernel
theorem dX8_line_151 : decode cX8_line 151 = .ok (.bipush 7, 2) := by decide +kernel
theorem dX8_line_153 : decode cX8_line 153 = .ok (.iadd, 1) := by decide +kernel
theorem dX8_line_154 : decode cX8_line 154 = .ok (.iconst 0, 1) := by decide +kernel
theorem dX8_line_155 : decode cX8_line 155 = .ok (.iastore, 1) := by decide +kernel
theorem dX8_line_156 : decode cX8_line 156 = .ok (.aload_n 0, 1) := by decide +kernel
theorem dX8_line_157 : decode cX8_line 157 = .ok (.getfield 7, 3) := by decide +kernel
theorem dX8_line_160 : decode cX8_line 160 = .ok (.iconst 1, 1) := by decide +kernel
theorem dX8_line_161 : decode cX8_line 161 = .ok (.dup2, 1) := by decide +kernel
theorem dX8_line_162 : decode cX8_line 162 = .ok (.iaload, 1) := by decide +kernel
theorem dX8_line_163 : decode cX8_line 163 = .ok (.iconst 1, 1) := by decide +kernel
theorem dX8_line_164 : decode cX8_line 164 = .ok (.iadd, 1) := by decide +kernel
theorem dX8_line_165 : decode cX8_line 165 = .ok (.iastore, 1) := by decide +kernel
theorem dX8_line_166 : decode cX8_line 166 = .ok (.aload_n 0, 1) := by decide +kernel
theorem dX8_line_167 : decode cX8_line 167 = .ok (.aload_n 0, 1) := by decide +kernel
theorem dX8_line_168 : decode cX8_line 168 = .ok (.getfield 7, 3) := by decide +kernel
theorem dX8_line_171 : decode cX8_line 171 = .ok (.iconst 1, 1) := by decide +kernel
theorem dX8_line_172 : decode cX8_line 172 = .ok (.iaload, 1) := by decide +kernel
theorem dX8_line_173 : decode cX8_line 173 = .ok (.iconst 1, 1) := by decide +kernel
theorem dX8_line_174 : decode cX8_line 174 = .ok (.isub, 1) := by decide +kernel
theorem dX8_line_175 : decode cX8_line 175 = .ok (.invokevirtual 57, 3) := by decide +kernel
theorem dX8_line_178 : decode cX8_line 178 = .ok (.ireturn, 1) := by decide +kernel
theorem dX8_present_0 : decode cX8_present 0 = .ok (.iconst 0, 1) := by decide +kernel
theorem dX8_present_1 : decode cX8_present 1 = .ok (.istore_n 1, 1) := by decide +kernel
theorem dX8_present_2 : decode cX8_present 2 = .ok (.iconst 0, 1) := by decide +kernel
theorem dX8_present_3 : decode cX8_present 3 = .ok (.istore_n 2, 1) := by decide +kernel
theorem dX8_present_4 : decode cX8_present 4 = .ok (.iload_n 2, 1) := by decide +kernel
theorem dX8_present_5 : decode cX8_present 5 = .ok (.aload_n 0, 1) := by decide +kernel
theorem dX8_present_6 : decode cX8_present 6 = .ok (.getfield 7, 3) := by decide +kernel
theorem dX8_present_9 : decode cX8_present 9 = .ok (.iconst 0, 1) := by decide +kernel
theorem dX8_present_10 : decode cX8_present 10 = .ok (.iaload, 1) := by decide +kernel
theorem dX8_present_11 : decode cX8_present 11 = .ok (.if_icmp .ge 21, 3) := by decide +kernel
theorem dX8_present_14 : decode cX8_present 14 = .ok (.iload_n 1, 1) := by decide +kernel
theorem dX8_present_15 : decode cX8_present 15 = .ok (.iconst 1, 1) := by decide +kernel
theorem dX8_present_16 : decode cX8_present 16 = .ok (.aload_n 0, 1) := by decide +kernel
theorem dX8_present_17 : decode cX8_present 17 = .ok (.iload_n 2, 1) := by decide +kernel
theorem dX8_present_18 : decode cX8_present 18 = .ok (.bipush 6, 2) := by decide +kernel
theorem dX8_present_20 : decode cX8_present 20 = .ok (.invokevirtual 61, 3) := by decide +kernel
theorem dX8_present_23 : decode cX8_present 23 = .ok (.isub, 1) := by decide +kernel
theorem dX8_present_24 : decode cX8_present 24 = .ok (.iadd, 1) := by decide +kernel
theorem dX8_present_25 : decode cX8_present 25 = .ok (.istore_n 1, 1) := by decide +kernel
theorem dX8_present_26 : decode cX8_present 26 = .ok (.iinc 2 1, 3) := by decide +kernel
theorem dX8_present_29 : decode cX8_present 29 = .ok (.goto (-25), 3) := by decide +kernel
theorem dX8_present_32 : decode cX8_present 32 = .ok (.iload_n 1, 1) := by decide +kernel
theorem dX8_present_33 : decode cX8_present 33 = .ok (.ireturn, 1) := by decide +kernel
theorem dX8_leave_0 : decode cX8_leave 0 = .ok (.aload_n 0, 1) := by decide +kernel
theorem dX8_leave_1 : decode cX8_leave 1 = .ok (.iload_n 1, 1) := by decide +kernel
theorem dX8_leave_2 : decode cX8_leave 2 = .ok (.invokevirtual 74, 3) := by decide +kernel
theorem dX8_leave_5 : decode cX8_leave 5 = .ok (.ifCond .eq 12, 3) := by decide +kernel
theorem dX8_leave_8 : decode cX8_leave 8 = .ok (.iload_n 2, 1) := by decide +kernel
theorem dX8_leave_9 : decode cX8_leave 9 = .ok (.iconst 0, 1) := by decide +kernel
theorem dX8_leave_10 : decode cX8_leave 10 = .ok (.iconst 1, 1) := by decide +kernel
theorem dX8_leave_11 : decode cX8_leave 11 = .ok (.invokestatic 41, 3) := by decide +kernel
theorem dX8_leave_14 : decode cX8_leave 14 = .ok (.ifCond .ne 6, 3) := by decide +kernel
theorem dX8_leave_17 : decode cX8_leave 17 = .ok (.ldc 49, 2) := by decide +kernel
theorem dX8_leave_19 : decode cX8_leave 19 = .ok (.ireturn, 1) := by decide +kernel
theorem dX8_leave_20 : decode cX8_leave 20 = .ok (.aload_n 0, 1) := by decide +kernel
theorem dX8_leave_21 : decode cX8_leave 21 = .ok (.iload_n 1, 1) := by decide +kernel
theorem dX8_leave_22 : decode cX8_leave 22 = .ok (.bipush 6, 2) := by decide +kernel
theorem dX8_leave_24 : decode cX8_leave 24 = .ok (.invokevirtual 61, 3) := by decide +kernel
theorem dX8_leave_27 : decode cX8_leave 27 = .ok (.iload_n 2, 1) := by decide +kernel
theorem dX8_leave_28 : decode cX8_leave 28 = .ok (.if_icmp .eq 14, 3) := by decide +kernel
theorem dX8_leave_31 : decode cX8_leave 31 = .ok (.aload_n 0, 1) := by decide +kernel
theorem dX8_leave_32 : decode cX8_leave 32 = .ok (.getfield 7, 3) := by decide +kernel
theorem dX8_leave_35 : decode cX8_leave 35 = .ok (.bipush 8, 2) := by decide +kernel
theorem dX8_leave_37 : decode cX8_leave 37 = .ok (.iaload, 1) := by decide +kernel
theorem dX8_leave_38 : decode cX8_leave 38 = .ok (.iload_n 1, 1) := by decide +kernel
theorem dX8_leave_39 : decode cX8_leave 39 = .ok (.if_icmp .ne 6, 3) := by decide +kernel
theorem dX8_leave_42 : decode cX8_leave 42 = .ok (.ldc 64, 2) := by decide +kernel
theorem dX8_leave_44 : decode cX8_leave 44 = .ok (.ireturn, 1) := by decide +kernel
theorem dX8_leave_45 : decode cX8_leave 45 = .ok (.aload_n 0, 1) := by decide +kernel
theorem dX8_leave_46 : decode cX8_leave 46 = .ok (.invokevirtual 54, 3) := by decide +kernel
theorem dX8_leave_49 : decode cX8_leave 49 = .ok (.aload_n 0, 1) := by decide +kernel
theorem dX8_leave_50 : decode cX8_leave 50 = .ok (.iload_n 1, 1) := by decide +kernel
theorem dX8_leave_51 : decode cX8_leave 51 = .ok (.bipush 6, 2) := by decide +kernel
theorem dX8_leave_53 : decode cX8_leave 53 = .ok (.iload_n 2, 1) := by decide +kernel
theorem dX8_leave_54 : decode cX8_leave 54 = .ok (.invokevirtual 66, 3) := by decide +kernel
theorem dX8_leave_57 : decode cX8_leave 57 = .ok (.aload_n 0, 1) := by decide +kernel
theorem dX8_leave_58 : decode cX8_leave 58 = .ok (.aload_n 0, 1) := by decide +kernel
theorem dX8_leave_59 : decode cX8_leave 59 = .ok (.invokevirtual 77, 3) := by decide +kernel
theorem dX8_leave_62 : decode cX8_leave 62 = .ok (.invokevirtual 57, 3) := by decide +kernel
theorem dX8_leave_65 : decode cX8_leave 65 = .ok (.ireturn, 1) := by decide +kernel
theorem dX8_refill_0 : decode cX8_refill 0 = .ok (.aload_n 0, 1) := by decide +kernel
theorem dX8_refill_1 : decode cX8_refill 1 = .ok (.iload_n 1, 1) := by decide +kernel
theorem dX8_refill_2 : decode cX8_refill 2 = .ok (.invokevirtual 74, 3) := by decide +kernel
theorem dX8_refill_5 : decode cX8_refill 5 = .ok (.ifCond .ne 6, 3) := by decide +kernel
theorem dX8_refill_8 : decode cX8_refill 8 = .ok (.ldc 49, 2) := by decide +kernel
theorem dX8_refill_10 : decode cX8_refill 10 = .ok (.ireturn, 1) := by decide +kernel
theorem dX8_refill_11 : decode cX8_refill 11 = .ok (.aload_n 0, 1) := by decide +kernel
theorem dX8_refill_12 : decode cX8_refill 12 = .ok (.iload_n 1, 1) := by decide +kernel
theorem dX8_refill_13 : decode cX8_refill 13 = .ok (.iconst 1, 1) := by decide +kernel
theorem dX8_refill_14 : decode cX8_refill 14 = .ok (.invokevirtual 61, 3) := by decide +kernel
theorem dX8_refill_17 : decode cX8_refill 17 = .ok (.aload_n 0, 1) := by decide +kernel
theorem dX8_refill_18 : decode cX8_refill 18 = .ok (.iload_n 1, 1) := by decide +kernel
theorem dX8_refill_19 : decode cX8_refill 19 = .ok (.iconst 2, 1) := by decide +kernel
theorem dX8_refill_20 : decode cX8_refill 20 = .ok (.invokevirtual 61, 3) := by decide +kernel
theorem dX8_refill_23 : decode cX8_refill 23 = .ok (.isub, 1) := by decide +kernel
theorem dX8_refill_24 : decode cX8_refill 24 = .ok (.istore_n 2, 1) := by decide +kernel
theorem dX8_refill_25 : decode cX8_refill 25 = .ok (.iload_n 2, 1) := by decide +kernel
theorem dX8_refill_26 : decode cX8_refill 26 = .ok (.ifCond .ne 6, 3) := by decide +kernel
theorem dX8_refill_29 : decode cX8_refill 29 = .ok (.ldc 64, 2) := by decide +kernel
theorem dX8_refill_31 : decode cX8_refill 31 = .ok (.ireturn, 1) := by decide +kernel
theorem dX8_refill_32 : decode cX8_refill 32 = .ok (.aload_n 0, 1) := by decide +kernel
theorem dX8_refill_33 : decode cX8_refill 33 = .ok (.invokevirtual 54, 3) := by decide +kernel
theorem dX8_refill_36 : decode cX8_refill 36 = .ok (.aload_n 0, 1) := by decide +kernel
theorem dX8_refill_37 : decode cX8_refill 37 = .ok (.iload_n 1, 1) := by decide +kernel
theorem dX8_refill_38 : decode cX8_refill 38 = .ok (.iconst 2, 1) := by decide +kernel
theorem dX8_refill_39 : decode cX8_refill 39 = .ok (.aload_n 0, 1) := by decide +kernel
theorem dX8_refill_40 : decode cX8_refill 40 = .ok (.iload_n 1, 1) := by decide +kernel
theorem dX8_refill_41 : decode cX8_refill 41 = .ok (.iconst 1, 1) := by decide +kernel
theorem dX8_refill_42 : decode cX8_refill 42 = .ok (.invokevirtual 61, 3) := by decide +kernel
theorem dX8_refill_45 : decode cX8_refill 45 = .ok (.invokevirtual 66, 3) := by decide +kernel
theorem dX8_refill_48 : decode cX8_refill 48 = .ok (.aload_n 0, 1) := by decide +kernel
theorem dX8_refill_49 : decode cX8_refill 49 = .ok (.iload_n 2, 1) := by decide +kernel
theorem dX8_refill_50 : decode cX8_refill 50 = .ok (.invokevirtual 57, 3) := by decide +kernel
theorem dX8_refill_53 : decode cX8_refill 53 = .ok (.ireturn, 1) := by decide +kernel
theorem dX8_least_0 : decode cX8_least 0 = .ok (.iconst (-1), 1) := by decide +kernel
theorem dX8_least_1 : decode cX8_least 1 = .ok (.istore_n 2, 1) := by decide +kernel
theorem dX8_least_2 : decode cX8_least 2 = .ok (.iconst 0, 1) := by decide +kernel
theorem dX8_least_3 : decode cX8_least 3 = .ok (.istore_n 3, 1) := by decide +kernel
theorem dX8_least_4 : decode cX8_least 4 = .ok (.iload_n 3, 1) := by decide +kernel
theorem dX8_least_5 : decode cX8_least 5 = .ok (.aload_n 0, 1) := by decide +kernel
theorem dX8_least_6 : decode cX8_least 6 = .ok (.getfield 7, 3) := by decide +kernel
theorem dX8_least_9 : decode cX8_least 9 = .ok (.iconst 0, 1) := by decide +kernel
theorem dX8_least_10 : decode cX8_least 10 = .ok (.iaload, 1) := by decide +kernel
theorem dX8_least_11 : decode cX8_least 11 = .ok (.if_icmp .ge 61, 3) := by decide +kernel
theorem dX8_least_14 : decode cX8_least 14 = .ok (.aload_n 0, 1) := by decide +kernel
theorem dX8_least_15 : decode cX8_least 15 = .ok (.iload_n 3, 1) := by decide +kernel
theorem dX8_least_16 : decode cX8_least 16 = .ok (.bipush 6, 2) := by decide +kernel
theorem dX8_least_18 : decode cX8_least 18 = .ok (.invokevirtual 61, 3) := by decide +kernel
theorem dX8_least_21 : decode cX8_least 21 = .ok (.ifCond .ne 26, 3) := by decide +kernel
theorem dX8_least_24 : decode cX8_least 24 = .ok (.iload_n 3, 1) := by decide +kernel
theorem dX8_least_25 : decode cX8_least 25 = .ok (.iload_n 1, 1) := by decide +kernel
theorem dX8_least_26 : decode cX8_least 26 = .ok (.if_icmp .eq 21, 3) := by decide +kernel
theorem dX8_least_29 : decode cX8_least 29 = .ok (.iload_n 2, 1) := by decide +kernel
theorem dX8_least_30 : decode cX8_least 30 = .ok (.ifCond .lt 13, 3) := by decide +kernel
theorem dX8_least_33 : decode cX8_least 33 = .ok (.aload_n 0, 1) := by decide +kernel
theorem dX8_least_34 : decode cX8_least 34 = .ok (.iload_n 3, 1) := by decide +kernel
theorem dX8_least_35 : decode cX8_least 35 = .ok (.iconst 3, 1) := by decide +kernel
theorem dX8_least_36 : decode cX8_least 36 = .ok (.invokevirtual 61, 3) := by decide +kernel
theorem dX8_least_39 : decode cX8_least 39 = .ok (.iload_n 2, 1) := by decide +kernel
theorem dX8_least_40 : decode cX8_least 40 = .ok (.if_icmp .ge 7, 3) := by decide +kernel
theorem dX8_least_43 : decode cX8_least 43 = .ok (.iconst 1, 1) := by decide +kernel
theorem dX8_least_44 : decode cX8_least 44 = .ok (.goto 4, 3) := by decide +kernel
theorem dX8_least_47 : decode cX8_least 47 = .ok (.iconst 0, 1) := by decide +kernel
theorem dX8_least_48 : decode cX8_least 48 = .ok (.istore 4, 2) := by decide +kernel
theorem dX8_least_50 : decode cX8_least 50 = .ok (.iload 4, 2) := by decide +kernel
theorem dX8_least_52 : decode cX8_least 52 = .ok (.ifCond .eq 12, 3) := by decide +kernel
theorem dX8_least_55 : decode cX8_least 55 = .ok (.aload_n 0, 1) := by decide +kernel
theorem dX8_least_56 : decode cX8_least 56 = .ok (.iload_n 3, 1) := by decide +kernel
theorem dX8_least_57 : decode cX8_least 57 = .ok (.iconst 3, 1) := by decide +kernel
theorem dX8_least_58 : decode cX8_least 58 = .ok (.invokevirtual 61, 3) := by decide +kernel
theorem dX8_least_61 : decode cX8_least 61 = .ok (.goto 4, 3) := by decide +kernel
theorem dX8_least_64 : decode cX8_least 64 = .ok (.iload_n 2, 1) := by decide +kernel
theorem dX8_least_65 : decode cX8_least 65 = .ok (.istore_n 2, 1) := by decide +kernel
theorem dX8_least_66 : decode cX8_least 66 = .ok (.iinc 3 1, 3) := by decide +kernel
theorem dX8_least_69 : decode cX8_least 69 = .ok (.goto (-65), 3) := by decide +kernel
theorem dX8_least_72 : decode cX8_least 72 = .ok (.iload_n 2, 1) := by decide +kernel
theorem dX8_least_73 : decode cX8_least 73 = .ok (.ireturn, 1) := by decide +kernel
theorem dX8_strikes_0 : decode cX8_strikes 0 = .ok (.aload_n 0, 1) := by decide +kernel
theorem dX8_strikes_1 : decode cX8_strikes 1 = .ok (.iload_n 1, 1) := by decide +kernel
theorem dX8_strikes_2 : decode cX8_strikes 2 = .ok (.bipush 6, 2) := by decide +kernel
theorem dX8_strikes_4 : decode cX8_strikes 4 = .ok (.invokevirtual 61, 3) := by decide +kernel
theorem dX8_strikes_7 : decode cX8_strikes 7 = .ok (.ifCond .ne 28, 3) := by decide +kernel
theorem dX8_strikes_10 : decode cX8_strikes 10 = .ok (.aload_n 0, 1) := by decide +kernel
theorem dX8_strikes_11 : decode cX8_strikes 11 = .ok (.iload_n 1, 1) := by decide +kernel
theorem dX8_strikes_12 : decode cX8_strikes 12 = .ok (.iconst 3, 1) := by decide +kernel
theorem dX8_strikes_13 : decode cX8_strikes 13 = .ok (.invokevirtual 61, 3) := by decide +kernel
theorem dX8_strikes_16 : decode cX8_strikes 16 = .ok (.aload_n 0, 1) := by decide +kernel
theorem dX8_strikes_17 : decode cX8_strikes 17 = .ok (.iconst (-1), 1) := by decide +kernel
theorem dX8_strikes_18 : decode cX8_strikes 18 = .ok (.invokevirtual 81, 3) := by decide +kernel
theorem dX8_strikes_21 : decode cX8_strikes 21 = .ok (.aload_n 0, 1) := by decide +kernel
theorem dX8_strikes_22 : decode cX8_strikes 22 = .ok (.getfield 7, 3) := by decide +kernel
theorem dX8_strikes_25 : decode cX8_strikes 25 = .ok (.iconst 2, 1) := by decide +kernel
theorem dX8_strikes_26 : decode cX8_strikes 26 = .ok (.iaload, 1) := by decide +kernel
theorem dX8_strikes_27 : decode cX8_strikes 27 = .ok (.iadd, 1) := by decide +kernel
theorem dX8_strikes_28 : decode cX8_strikes 28 = .ok (.if_icmp .le 7, 3) := by decide +kernel
theorem dX8_strikes_31 : decode cX8_strikes 31 = .ok (.iconst 1, 1) := by decide +kernel
theorem dX8_strikes_32 : decode cX8_strikes 32 = .ok (.goto 4, 3) := by decide +kernel
theorem dX8_strikes_35 : decode cX8_strikes 35 = .ok (.iconst 0, 1) := by decide +kernel
theorem dX8_strikes_36 : decode cX8_strikes 36 = .ok (.ireturn, 1) := by decide +kernel
theorem dX8_linesBy_0 : decode cX8_linesBy 0 = .ok (.iconst 0, 1) := by decide +kernel
theorem dX8_linesBy_1 : decode cX8_linesBy 1 = .ok (.istore_n 2, 1) := by decide +kernel
theorem dX8_linesBy_2 : decode cX8_linesBy 2 = .ok (.iconst 0, 1) := by decide +kernel
theorem dX8_linesBy_3 : decode cX8_linesBy 3 = .ok (.istore_n 3, 1) := by decide +kernel
theorem dX8_linesBy_4 : decode cX8_linesBy 4 = .ok (.iload_n 3, 1) := by decide +kernel
theorem dX8_linesBy_5 : decode cX8_linesBy 5 = .ok (.aload_n 0, 1) := by decide +kernel
theorem dX8_linesBy_6 : decode cX8_linesBy 6 = .ok (.getfield 7, 3) := by decide +kernel
theorem dX8_linesBy_9 : decode cX8_linesBy 9 = .ok (.iconst 1, 1) := by decide +kernel
theorem dX8_linesBy_10 : decode cX8_linesBy 10 = .ok (.iaload, 1) := by decide +kernel
theorem dX8_linesBy_11 : decode cX8_linesBy 11 = .ok (.if_icmp .ge 27, 3) := by decide +kernel
theorem dX8_linesBy_14 : decode cX8_linesBy 14 = .ok (.iload_n 2, 1) := by decide +kernel
theorem dX8_linesBy_15 : decode cX8_linesBy 15 = .ok (.aload_n 0, 1) := by decide +kernel
theorem dX8_linesBy_16 : decode cX8_linesBy 16 = .ok (.iload_n 3, 1) := by decide +kernel
theorem dX8_linesBy_17 : decode cX8_linesBy 17 = .ok (.iconst 4, 1) := by decide +kernel
theorem dX8_linesBy_18 : decode cX8_linesBy 18 = .ok (.invokevirtual 45, 3) := by decide +kernel
theorem dX8_linesBy_21 : decode cX8_linesBy 21 = .ok (.iload_n 1, 1) := by decide +kernel
theorem dX8_linesBy_22 : decode cX8_linesBy 22 = .ok (.if_icmp .ne 7, 3) := by decide +kernel
theorem dX8_linesBy_25 : decode cX8_linesBy 25 = .ok (.iconst 1, 1) := by decide +kernel
theorem dX8_linesBy_26 : decode cX8_linesBy 26 = .ok (.goto 4, 3) := by decide +kernel
theorem dX8_linesBy_29 : decode cX8_linesBy 29 = .ok (.iconst 0, 1) := by decide +kernel
theorem dX8_linesBy_30 : decode cX8_linesBy 30 = .ok (.iadd, 1) := by decide +kernel
theorem dX8_linesBy_31 : decode cX8_linesBy 31 = .ok (.istore_n 2, 1) := by decide +kernel
theorem dX8_linesBy_32 : decode cX8_linesBy 32 = .ok (.iinc 3 1, 3) := by decide +kernel
theorem dX8_linesBy_35 : decode cX8_linesBy 35 = .ok (.goto (-31), 3) := by decide +kernel
theorem dX8_linesBy_38 : decode cX8_linesBy 38 = .ok (.iload_n 2, 1) := by decide +kernel
theorem dX8_linesBy_39 : decode cX8_linesBy 39 = .ok (.ireturn, 1) := by decide +kernel
theorem dX8_penOf_0 : decode cX8_penOf 0 = .ok (.aload_n 0, 1) := by decide +kernel
theorem dX8_penOf_1 : decode cX8_penOf 1 = .ok (.iload_n 1, 1) := by decide +kernel
theorem dX8_penOf_2 : decode cX8_penOf 2 = .ok (.invokevirtual 74, 3) := by decide +kernel
theorem dX8_penOf_5 : decode cX8_penOf 5 = .ok (.ifCond .eq 13, 3) := by decide +kernel
theorem dX8_penOf_8 : decode cX8_penOf 8 = .ok (.iload_n 2, 1) := by decide +kernel
theorem dX8_penOf_9 : decode cX8_penOf 9 = .ok (.iconst 0, 1) := by decide +kernel
theorem dX8_penOf_10 : decode cX8_penOf 10 = .ok (.bipush 10, 2) := by decide +kernel
theorem dX8_penOf_12 : decode cX8_penOf 12 = .ok (.invokestatic 41, 3) := by decide +kernel
theorem dX8_penOf_15 : decode cX8_penOf 15 = .ok (.ifCond .ne 6, 3) := by decide +kernel
theorem dX8_penOf_18 : decode cX8_penOf 18 = .ok (.ldc 49, 2) := by decide +kernel
theorem dX8_penOf_20 : decode cX8_penOf 20 = .ok (.ireturn, 1) := by decide +kernel
theorem dX8_penOf_21 : decode cX8_penOf 21 = .ok (.iload_n 2, 1) := by decide +kernel
theorem dX8_penOf_22 : decode cX8_penOf 22 = .ok (.tableswitch 100 6 10 #[34, 51, 59, 73, 94], 34) := by decide +kernel
theorem dX8_penOf_56 : decode cX8_penOf 56 = .ok (.aload_n 0, 1) := by decide +kernel
theorem dX8_penOf_57 : decode cX8_penOf 57 = .ok (.getfield 7, 3) := by decide +kernel
theorem dX8_penOf_60 : decode cX8_penOf 60 = .ok (.bipush 8, 2) := by decide +kernel
theorem dX8_penOf_62 : decode cX8_penOf 62 = .ok (.iaload, 1) := by decide +kernel
theorem dX8_penOf_63 : decode cX8_penOf 63 = .ok (.iload_n 1, 1) := by decide +kernel
theorem dX8_penOf_64 : decode cX8_penOf 64 = .ok (.if_icmp .ne 7, 3) := by decide +kernel
theorem dX8_penOf_67 : decode cX8_penOf 67 = .ok (.iconst 1, 1) := by decide +kernel
theorem dX8_penOf_68 : decode cX8_penOf 68 = .ok (.goto 4, 3) := by decide +kernel
theorem dX8_penOf_71 : decode cX8_penOf 71 = .ok (.iconst 0, 1) := by decide +kernel
theorem dX8_penOf_72 : decode cX8_penOf 72 = .ok (.ireturn, 1) := by decide +kernel
theorem dX8_penOf_73 : decode cX8_penOf 73 = .ok (.aload_n 0, 1) := by decide +kernel
theorem dX8_penOf_74 : decode cX8_penOf 74 = .ok (.iload_n 1, 1) := by decide +kernel
theorem dX8_penOf_75 : decode cX8_penOf 75 = .ok (.bipush 6, 2) := by decide +kernel
theorem dX8_penOf_77 : decode cX8_penOf 77 = .ok (.invokevirtual 61, 3) := by decide +kernel
theorem dX8_penOf_80 : decode cX8_penOf 80 = .ok (.ireturn, 1) := by decide +kernel
theorem dX8_penOf_81 : decode cX8_penOf 81 = .ok (.aload_n 0, 1) := by decide +kernel
theorem dX8_penOf_82 : decode cX8_penOf 82 = .ok (.iload_n 1, 1) := by decide +kernel
theorem dX8_penOf_83 : decode cX8_penOf 83 = .ok (.invokevirtual 84, 3) := by decide +kernel
theorem dX8_penOf_86 : decode cX8_penOf 86 = .ok (.ifCond .eq 7, 3) := by decide +kernel
theorem dX8_penOf_89 : decode cX8_penOf 89 = .ok (.iconst 1, 1) := by decide +kernel
theorem dX8_penOf_90 : decode cX8_penOf 90 = .ok (.goto 4, 3) := by decide +kernel
theorem dX8_penOf_93 : decode cX8_penOf 93 = .ok (.iconst 0, 1) := by decide +kernel
theorem dX8_penOf_94 : decode cX8_penOf 94 = .ok (.ireturn, 1) := by decide +kernel
theorem dX8_penOf_95 : decode cX8_penOf 95 = .ok (.aload_n 0, 1) := by decide +kernel
theorem dX8_penOf_96 : decode cX8_penOf 96 = .ok (.iload_n 1, 1) := by decide +kernel
theorem dX8_penOf_97 : decode cX8_penOf 97 = .ok (.iconst 4, 1) := by decide +kernel
theorem dX8_penOf_98 : decode cX8_penOf 98 = .ok (.invokevirtual 61, 3) := by decide +kernel
theorem dX8_penOf_101 : decode cX8_penOf 101 = .ok (.aload_n 0, 1) := by decide +kernel
theorem dX8_penOf_102 : decode cX8_penOf 102 = .ok (.getfield 7, 3) := by decide +kernel
theorem dX8_penOf_105 : decode cX8_penOf 105 = .ok (.iconst 3, 1) := by decide +kernel
theorem dX8_penOf_106 : decode cX8_penOf 106 = .ok (.iaload, 1) := by decide +kernel
theorem dX8_penOf_107 : decode cX8_penOf 107 = .ok (.if_icmp .le 7, 3) := by decide +kernel
theorem dX8_penOf_110 : decode cX8_penOf 110 = .ok (.iconst 1, 1) := by decide +kernel
theorem dX8_penOf_111 : decode cX8_penOf 111 = .ok (.goto 4, 3) := by decide +kernel
theorem dX8_penOf_114 : decode cX8_penOf 114 = .ok (.iconst 0, 1) := by decide +kernel
theorem dX8_penOf_115 : decode cX8_penOf 115 = .ok (.ireturn, 1) := by decide +kernel
theorem dX8_penOf_116 : decode cX8_penOf 116 = .ok (.aload_n 0, 1) := by decide +kernel
theorem dX8_penOf_117 : decode cX8_penOf 117 = .ok (.iload_n 1, 1) := by decide +kernel
theorem dX8_penOf_118 : decode cX8_penOf 118 = .ok (.invokevirtual 87, 3) := by decide +kernel
theorem dX8_penOf_121 : decode cX8_penOf 121 = .ok (.ireturn, 1) := by decide +kernel
theorem dX8_penOf_122 : decode cX8_penOf 122 = .ok (.aload_n 0, 1) := by decide +kernel
theorem dX8_penOf_123 : decode cX8_penOf 123 = .ok (.iload_n 1, 1) := by decide +kernel
theorem dX8_penOf_124 : decode cX8_penOf 124 = .ok (.iload_n 2, 1) := by decide +kernel
theorem dX8_penOf_125 : decode cX8_penOf 125 = .ok (.invokevirtual 61, 3) := by decide +kernel
theorem dX8_penOf_128 : decode cX8_penOf 128 = .ok (.ireturn, 1) := by decide +kernel
theorem dX8_length_0 : decode cX8_length 0 = .ok (.aload_n 0, 1) := by decide +kernel
theorem dX8_length_1 : decode cX8_length 1 = .ok (.iload_n 1, 1) := by decide +kernel
theorem dX8_length_2 : decode cX8_length 2 = .ok (.iconst 0, 1) := by decide +kernel
theorem dX8_length_3 : decode cX8_length 3 = .ok (.invokevirtual 45, 3) := by decide +kernel
theorem dX8_length_6 : decode cX8_length 6 = .ok (.aload_n 0, 1) := by decide +kernel
theorem dX8_length_7 : decode cX8_length 7 = .ok (.iload_n 1, 1) := by decide +kernel
theorem dX8_length_8 : decode cX8_length 8 = .ok (.iconst 2, 1) := by decide +kernel
theorem dX8_length_9 : decode cX8_length 9 = .ok (.invokevirtual 45, 3) := by decide +kernel
theorem dX8_length_12 : decode cX8_length 12 = .ok (.invokestatic 90, 3) := by decide +kernel
theorem dX8_length_15 : decode cX8_length 15 = .ok (.istore_n 2, 1) := by decide +kernel
theorem dX8_length_16 : decode cX8_length 16 = .ok (.aload_n 0, 1) := by decide +kernel
theorem dX8_length_17 : decode cX8_length 17 = .ok (.iload_n 1, 1) := by decide +kernel
theorem dX8_length_18 : decode cX8_length 18 = .ok (.iconst 1, 1) := by decide +kernel
theorem dX8_length_19 : decode cX8_length 19 = .ok (.invokevirtual 45, 3) := by decide +kernel
theorem dX8_length_22 : decode cX8_length 22 = .ok (.aload_n 0, 1) := by decide +kernel
theorem dX8_length_23 : decode cX8_length 23 = .ok (.iload_n 1, 1) := by decide +kernel
theorem dX8_length_24 : decode cX8_length 24 = .ok (.iconst 3, 1) := by decide +kernel
theorem dX8_length_25 : decode cX8_length 25 = .ok (.invokevirtual 45, 3) := by decide +kernel
theorem dX8_length_28 : decode cX8_length 28 = .ok (.invokestatic 90, 3) := by decide +kernel
theorem dX8_length_31 : decode cX8_length 31 = .ok (.istore_n 3, 1) := by decide +kernel
theorem dX8_length_32 : decode cX8_length 32 = .ok (.iload_n 2, 1) := by decide +kernel
theorem dX8_length_33 : decode cX8_length 33 = .ok (.iload_n 3, 1) := by decide +kernel
theorem dX8_length_34 : decode cX8_length 34 = .ok (.if_icmp .ge 7, 3) := by decide +kernel
theorem dX8_length_37 : decode cX8_length 37 = .ok (.iload_n 3, 1) := by decide +kernel
theorem dX8_length_38 : decode cX8_length 38 = .ok (.goto 4, 3) := by decide +kernel
theorem dX8_length_41 : decode cX8_length 41 = .ok (.iload_n 2, 1) := by decide +kernel
theorem dX8_length_42 : decode cX8_length 42 = .ok (.ireturn, 1) := by decide +kernel
theorem dX8_isWet_0 : decode cX8_isWet 0 = .ok (.aload_n 0, 1) := by decide +kernel
theorem dX8_isWet_1 : decode cX8_isWet 1 = .ok (.iload_n 1, 1) := by decide +kernel
theorem dX8_isWet_2 : decode cX8_isWet 2 = .ok (.invokevirtual 93, 3) := by decide +kernel
theorem dX8_isWet_5 : decode cX8_isWet 5 = .ok (.ifCond .eq 18, 3) := by decide +kernel
theorem dX8_isWet_8 : decode cX8_isWet 8 = .ok (.iload_n 2, 1) := by decide +kernel
theorem dX8_isWet_9 : decode cX8_isWet 9 = .ok (.aload_n 0, 1) := by decide +kernel
theorem dX8_isWet_10 : decode cX8_isWet 10 = .ok (.iload_n 1, 1) := by decide +kernel
theorem dX8_isWet_11 : decode cX8_isWet 11 = .ok (.bipush 6, 2) := by decide +kernel
theorem dX8_isWet_13 : decode cX8_isWet 13 = .ok (.invokevirtual 45, 3) := by decide +kernel
theorem dX8_isWet_16 : decode cX8_isWet 16 = .ok (.if_icmp .ge 7, 3) := by decide +kernel
theorem dX8_isWet_19 : decode cX8_isWet 19 = .ok (.iconst 1, 1) := by decide +kernel
theorem dX8_isWet_20 : decode cX8_isWet 20 = .ok (.goto 4, 3) := by decide +kernel
theorem dX8_isWet_23 : decode cX8_isWet 23 = .ok (.iconst 0, 1) := by decide +kernel
theorem dX8_isWet_24 : decode cX8_isWet 24 = .ok (.ireturn, 1) := by decide +kernel
theorem dX8_lineOf_0 : decode cX8_lineOf 0 = .ok (.aload_n 0, 1) := by decide +kernel
theorem dX8_lineOf_1 : decode cX8_lineOf 1 = .ok (.iload_n 1, 1) := by decide +kernel
theorem dX8_lineOf_2 : decode cX8_lineOf 2 = .ok (.invokevirtual 96, 3) := by decide +kernel
theorem dX8_lineOf_5 : decode cX8_lineOf 5 = .ok (.ifCond .eq 13, 3) := by decide +kernel
theorem dX8_lineOf_8 : decode cX8_lineOf 8 = .ok (.iload_n 2, 1) := by decide +kernel
theorem dX8_lineOf_9 : decode cX8_lineOf 9 = .ok (.iconst 0, 1) := by decide +kernel
theorem dX8_lineOf_10 : decode cX8_lineOf 10 = .ok (.bipush 9, 2) := by decide +kernel
theorem dX8_lineOf_12 : decode cX8_lineOf 12 = .ok (.invokestatic 41, 3) := by decide +kernel
theorem dX8_lineOf_15 : decode cX8_lineOf 15 = .ok (.ifCond .ne 6, 3) := by decide +kernel
theorem dX8_lineOf_18 : decode cX8_lineOf 18 = .ok (.ldc 49, 2) := by decide +kernel
theorem dX8_lineOf_20 : decode cX8_lineOf 20 = .ok (.ireturn, 1) := by decide +kernel
theorem dX8_lineOf_21 : decode cX8_lineOf 21 = .ok (.iload_n 2, 1) := by decide +kernel
theorem dX8_lineOf_22 : decode cX8_lineOf 22 = .ok (.tableswitch 122 4 9 #[38, 44, 58, 58, 80, 101], 38) := by decide +kernel
theorem dX8_lineOf_60 : decode cX8_lineOf 60 = .ok (.aload_n 0, 1) := by decide +kernel
theorem dX8_lineOf_61 : decode cX8_lineOf 61 = .ok (.iload_n 1, 1) := by decide +kernel
theorem dX8_lineOf_62 : decode cX8_lineOf 62 = .ok (.invokevirtual 99, 3) := by decide +kernel
theorem dX8_lineOf_65 : decode cX8_lineOf 65 = .ok (.ireturn, 1) := by decide +kernel
theorem dX8_lineOf_66 : decode cX8_lineOf 66 = .ok (.aload_n 0, 1) := by decide +kernel
theorem dX8_lineOf_67 : decode cX8_lineOf 67 = .ok (.iload_n 1, 1) := by decide +kernel
theorem dX8_lineOf_68 : decode cX8_lineOf 68 = .ok (.invokevirtual 93, 3) := by decide +kernel
theorem dX8_lineOf_71 : decode cX8_lineOf 71 = .ok (.ifCond .eq 7, 3) := by decide +kernel
theorem dX8_lineOf_74 : decode cX8_lineOf 74 = .ok (.iconst 1, 1) := by decide +kernel
theorem dX8_lineOf_75 : decode cX8_lineOf 75 = .ok (.goto 4, 3) := by decide +kernel
theorem dX8_lineOf_78 : decode cX8_lineOf 78 = .ok (.iconst 0, 1) := by decide +kernel
theorem dX8_lineOf_79 : decode cX8_lineOf 79 = .ok (.ireturn, 1) := by decide +kernel
theorem dX8_lineOf_80 : decode cX8_lineOf 80 = .ok (.aload_n 0, 1) := by decide +kernel
theorem dX8_lineOf_81 : decode cX8_lineOf 81 = .ok (.iload_n 1, 1) := by decide +kernel
theorem dX8_lineOf_82 : decode cX8_lineOf 82 = .ok (.invokevirtual 93, 3) := by decide +kernel
theorem dX8_lineOf_85 : decode cX8_lineOf 85 = .ok (.ifCond .eq 14, 3) := by decide +kernel
theorem dX8_lineOf_88 : decode cX8_lineOf 88 = .ok (.aload_n 0, 1) := by decide +kernel
theorem dX8_lineOf_89 : decode cX8_lineOf 89 = .ok (.iload_n 1, 1) := by decide +kernel
theorem dX8_lineOf_90 : decode cX8_lineOf 90 = .ok (.iload_n 2, 1) := by decide +kernel
theorem dX8_lineOf_91 : decode cX8_lineOf 91 = .ok (.iconst 2, 1) := by decide +kernel
theorem dX8_lineOf_92 : decode cX8_lineOf 92 = .ok (.isub, 1) := by decide +kernel
theorem dX8_lineOf_93 : decode cX8_lineOf 93 = .ok (.invokevirtual 45, 3) := by decide +kernel
theorem dX8_lineOf_96 : decode cX8_lineOf 96 = .ok (.goto 5, 3) := by decide +kernel
theorem dX8_lineOf_99 : decode cX8_lineOf 99 = .ok (.ldc 102, 2) := by decide +kernel
theorem dX8_lineOf_101 : decode cX8_lineOf 101 = .ok (.ireturn, 1) := by decide +kernel
theorem dX8_lineOf_102 : decode cX8_lineOf 102 = .ok (.aload_n 0, 1) := by decide +kernel
theorem dX8_lineOf_103 : decode cX8_lineOf 103 = .ok (.iload_n 1, 1) := by decide +kernel
theorem dX8_lineOf_104 : decode cX8_lineOf 104 = .ok (.aload_n 0, 1) := by decide +kernel
theorem dX8_lineOf_105 : decode cX8_lineOf 105 = .ok (.getfield 7, 3) := by decide +kernel
theorem dX8_lineOf_108 : decode cX8_lineOf 108 = .ok (.bipush 7, 2) := by decide +kernel
theorem dX8_lineOf_110 : decode cX8_lineOf 110 = .ok (.iaload, 1) := by decide +kernel
theorem dX8_lineOf_111 : decode cX8_lineOf 111 = .ok (.invokevirtual 103, 3) := by decide +kernel
theorem dX8_lineOf_114 : decode cX8_lineOf 114 = .ok (.ifCond .eq 7, 3) := by decide +kernel
theorem dX8_lineOf_117 : decode cX8_lineOf 117 = .ok (.iconst 1, 1) := by decide +kernel
theorem dX8_lineOf_118 : decode cX8_lineOf 118 = .ok (.goto 4, 3) := by decide +kernel
theorem dX8_lineOf_121 : decode cX8_lineOf 121 = .ok (.iconst 0, 1) := by decide +kernel
theorem dX8_lineOf_122 : decode cX8_lineOf 122 = .ok (.ireturn, 1) := by decide +kernel
theorem dX8_lineOf_123 : decode cX8_lineOf 123 = .ok (.aload_n 0, 1) := by decide +kernel
theorem dX8_lineOf_124 : decode cX8_lineOf 124 = .ok (.iload_n 1, 1) := by decide +kernel
theorem dX8_lineOf_125 : decode cX8_lineOf 125 = .ok (.invokevirtual 93, 3) := by decide +kernel
theorem dX8_lineOf_128 : decode cX8_lineOf 128 = .ok (.ifCond .eq 13, 3) := by decide +kernel
theorem dX8_lineOf_131 : decode cX8_lineOf 131 = .ok (.aload_n 0, 1) := by decide +kernel
theorem dX8_lineOf_132 : decode cX8_lineOf 132 = .ok (.iload_n 1, 1) := by decide +kernel
theorem dX8_lineOf_133 : decode cX8_lineOf 133 = .ok (.bipush 7, 2) := by decide +kernel
theorem dX8_lineOf_135 : decode cX8_lineOf 135 = .ok (.invokevirtual 45, 3) := by decide +kernel
theorem dX8_lineOf_138 : decode cX8_lineOf 138 = .ok (.goto 5, 3) := by decide +kernel
theorem dX8_lineOf_141 : decode cX8_lineOf 141 = .ok (.ldc 102, 2) := by decide +kernel
theorem dX8_lineOf_143 : decode cX8_lineOf 143 = .ok (.ireturn, 1) := by decide +kernel
theorem dX8_lineOf_144 : decode cX8_lineOf 144 = .ok (.aload_n 0, 1) := by decide +kernel
theorem dX8_lineOf_145 : decode cX8_lineOf 145 = .ok (.iload_n 1, 1) := by decide +kernel
theorem dX8_lineOf_146 : decode cX8_lineOf 146 = .ok (.iload_n 2, 1) := by decide +kernel
theorem dX8_lineOf_147 : decode cX8_lineOf 147 = .ok (.invokevirtual 45, 3) := by decide +kernel
theorem dX8_lineOf_150 : decode cX8_lineOf 150 = .ok (.ireturn, 1) := by decide +kernel
theorem dX8_passes_0 : decode cX8_passes 0 = .ok (.aload_n 0, 1) := by decide +kernel
theorem dX8_passes_1 : decode cX8_passes 1 = .ok (.getfield 7, 3) := by decide +kernel
theorem dX8_passes_4 : decode cX8_passes 4 = .ok (.bipush 7, 2) := by decide +kernel
theorem dX8_passes_6 : decode cX8_passes 6 = .ok (.dup2, 1) := by decide +kernel
theorem dX8_passes_7 : decode cX8_passes 7 = .ok (.iaload, 1) := by decide +kernel
theorem dX8_passes_8 : decode cX8_passes 8 = .ok (.iload_n 1, 1) := by decide +kernel
theorem dX8_passes_9 : decode cX8_passes 9 = .ok (.iadd, 1) := by decide +kernel
theorem dX8_passes_10 : decode cX8_passes 10 = .ok (.iastore, 1) := by decide +kernel
theorem dX8_passes_11 : decode cX8_passes 11 = .ok (.aload_n 0, 1) := by decide +kernel
theorem dX8_passes_12 : decode cX8_passes 12 = .ok (.getfield 7, 3) := by decide +kernel
theorem dX8_passes_15 : decode cX8_passes 15 = .ok (.bipush 8, 2) := by decide +kernel
theorem dX8_passes_17 : decode cX8_passes 17 = .ok (.iaload, 1) := by decide +kernel
theorem dX8_passes_18 : decode cX8_passes 18 = .ok (.ifCond .lt 29, 3) := by decide +kernel
theorem dX8_passes_21 : decode cX8_passes 21 = .ok (.aload_n 0, 1) := by decide +kernel
theorem dX8_passes_22 : decode cX8_passes 22 = .ok (.aload_n 0, 1) := by decide +kernel
theorem dX8_passes_23 : decode cX8_passes 23 = .ok (.getfield 7, 3) := by decide +kernel
theorem dX8_passes_26 : decode cX8_passes 26 = .ok (.bipush 8, 2) := by decide +kernel
theorem dX8_passes_28 : decode cX8_passes 28 = .ok (.iaload, 1) := by decide +kernel
theorem dX8_passes_29 : decode cX8_passes 29 = .ok (.iconst 4, 1) := by decide +kernel
theorem dX8_passes_30 : decode cX8_passes 30 = .ok (.aload_n 0, 1) := by decide +kernel
theorem dX8_passes_31 : decode cX8_passes 31 = .ok (.aload_n 0, 1) := by decide +kernel
theorem dX8_passes_32 : decode cX8_passes 32 = .ok (.getfield 7, 3) := by decide +kernel
theorem dX8_passes_35 : decode cX8_passes 35 = .ok (.bipush 8, 2) := by decide +kernel
theorem dX8_passes_37 : decode cX8_passes 37 = .ok (.iaload, 1) := by decide +kernel
theorem dX8_passes_38 : decode cX8_passes 38 = .ok (.iconst 4, 1) := by decide +kernel
theorem dX8_passes_39 : decode cX8_passes 39 = .ok (.invokevirtual 61, 3) := by decide +kernel
theorem dX8_passes_42 : decode cX8_passes 42 = .ok (.iload_n 1, 1) := by decide +kernel
theorem dX8_passes_43 : decode cX8_passes 43 = .ok (.iadd, 1) := by decide +kernel
theorem dX8_passes_44 : decode cX8_passes 44 = .ok (.invokevirtual 66, 3) := by decide +kernel
theorem dX8_passes_47 : decode cX8_passes 47 = .ok (.return_, 1) := by decide +kernel
theorem dX8_takes_0 : decode cX8_takes 0 = .ok (.aload_n 0, 1) := by decide +kernel
theorem dX8_takes_1 : decode cX8_takes 1 = .ok (.iload_n 1, 1) := by decide +kernel
theorem dX8_takes_2 : decode cX8_takes 2 = .ok (.invokevirtual 74, 3) := by decide +kernel
theorem dX8_takes_5 : decode cX8_takes 5 = .ok (.ifCond .ne 6, 3) := by decide +kernel
theorem dX8_takes_8 : decode cX8_takes 8 = .ok (.ldc 49, 2) := by decide +kernel
theorem dX8_takes_10 : decode cX8_takes 10 = .ok (.ireturn, 1) := by decide +kernel
theorem dX8_takes_11 : decode cX8_takes 11 = .ok (.aload_n 0, 1) := by decide +kernel
theorem dX8_takes_12 : decode cX8_takes 12 = .ok (.getfield 7, 3) := by decide +kernel
theorem dX8_takes_15 : decode cX8_takes 15 = .ok (.bipush 8, 2) := by decide +kernel
theorem dX8_takes_17 : decode cX8_takes 17 = .ok (.iaload, 1) := by decide +kernel
theorem dX8_takes_18 : decode cX8_takes 18 = .ok (.iload_n 1, 1) := by decide +kernel
theorem dX8_takes_19 : decode cX8_takes 19 = .ok (.if_icmp .eq 14, 3) := by decide +kernel
theorem dX8_takes_22 : decode cX8_takes 22 = .ok (.aload_n 0, 1) := by decide +kernel
theorem dX8_takes_23 : decode cX8_takes 23 = .ok (.iload_n 1, 1) := by decide +kernel
theorem dX8_takes_24 : decode cX8_takes 24 = .ok (.bipush 6, 2) := by decide +kernel
theorem dX8_takes_26 : decode cX8_takes 26 = .ok (.invokevirtual 61, 3) := by decide +kernel
theorem dX8_takes_29 : decode cX8_takes 29 = .ok (.iconst 1, 1) := by decide +kernel
theorem dX8_takes_30 : decode cX8_takes 30 = .ok (.if_icmp .ne 6, 3) := by decide +kernel
theorem dX8_takes_33 : decode cX8_takes 33 = .ok (.ldc 64, 2) := by decide +kernel
theorem dX8_takes_35 : decode cX8_takes 35 = .ok (.ireturn, 1) := by decide +kernel
theorem dX8_takes_36 : decode cX8_takes 36 = .ok (.aload_n 0, 1) := by decide +kernel
theorem dX8_takes_37 : decode cX8_takes 37 = .ok (.getfield 7, 3) := by decide +kernel
theorem dX8_takes_40 : decode cX8_takes 40 = .ok (.bipush 7, 2) := by decide +kernel
theorem dX8_takes_42 : decode cX8_takes 42 = .ok (.iaload, 1) := by decide +kernel
theorem dX8_takes_43 : decode cX8_takes 43 = .ok (.aload_n 0, 1) := by decide +kernel
theorem dX8_takes_44 : decode cX8_takes 44 = .ok (.getfield 7, 3) := by decide +kernel
theorem dX8_takes_47 : decode cX8_takes 47 = .ok (.iconst 5, 1) := by decide +kernel
theorem dX8_takes_48 : decode cX8_takes 48 = .ok (.iaload, 1) := by decide +kernel
theorem dX8_takes_49 : decode cX8_takes 49 = .ok (.iadd, 1) := by decide +kernel
theorem dX8_takes_50 : decode cX8_takes 50 = .ok (.ldc 107, 2) := by decide +kernel
theorem dX8_takes_52 : decode cX8_takes 52 = .ok (.if_icmp .le 6, 3) := by decide +kernel
theorem dX8_takes_55 : decode cX8_takes 55 = .ok (.ldc 65, 2) := by decide +kernel
theorem dX8_takes_57 : decode cX8_takes 57 = .ok (.ireturn, 1) := by decide +kernel
theorem dX8_takes_58 : decode cX8_takes 58 = .ok (.aload_n 0, 1) := by decide +kernel
theorem dX8_takes_59 : decode cX8_takes 59 = .ok (.getfield 7, 3) := by decide +kernel
theorem dX8_takes_62 : decode cX8_takes 62 = .ok (.bipush 8, 2) := by decide +kernel
theorem dX8_takes_64 : decode cX8_takes 64 = .ok (.iaload, 1) := by decide +kernel
theorem dX8_takes_65 : decode cX8_takes 65 = .ok (.istore_n 2, 1) := by decide +kernel
theorem dX8_takes_66 : decode cX8_takes 66 = .ok (.aload_n 0, 1) := by decide +kernel
theorem dX8_takes_67 : decode cX8_takes 67 = .ok (.aload_n 0, 1) := by decide +kernel
theorem dX8_takes_68 : decode cX8_takes 68 = .ok (.getfield 7, 3) := by decide +kernel
theorem dX8_takes_71 : decode cX8_takes 71 = .ok (.iconst 5, 1) := by decide +kernel
theorem dX8_takes_72 : decode cX8_takes 72 = .ok (.iaload, 1) := by decide +kernel
theorem dX8_takes_73 : decode cX8_takes 73 = .ok (.invokevirtual 108, 3) := by decide +kernel
theorem dX8_takes_76 : decode cX8_takes 76 = .ok (.aload_n 0, 1) := by decide +kernel
theorem dX8_takes_77 : decode cX8_takes 77 = .ok (.getfield 7, 3) := by decide +kernel
theorem dX8_takes_80 : decode cX8_takes 80 = .ok (.bipush 8, 2) := by decide +kernel
theorem dX8_takes_82 : decode cX8_takes 82 = .ok (.iload_n 1, 1) := by decide +kernel
theorem dX8_takes_83 : decode cX8_takes 83 = .ok (.iastore, 1) := by decide +kernel
theorem dX8_takes_84 : decode cX8_takes 84 = .ok (.aload_n 0, 1) := by decide +kernel
theorem dX8_takes_85 : decode cX8_takes 85 = .ok (.getfield 7, 3) := by decide +kernel
theorem dX8_takes_88 : decode cX8_takes 88 = .ok (.bipush 11, 2) := by decide +kernel
theorem dX8_takes_90 : decode cX8_takes 90 = .ok (.dup2, 1) := by decide +kernel
theorem dX8_takes_91 : decode cX8_takes 91 = .ok (.iaload, 1) := by decide +kernel
theorem dX8_takes_92 : decode cX8_takes 92 = .ok (.iconst 1, 1) := by decide +kernel
theorem dX8_takes_93 : decode cX8_takes 93 = .ok (.iadd, 1) := by decide +kernel
theorem dX8_takes_94 : decode cX8_takes 94 = .ok (.iastore, 1) := by decide +kernel
theorem dX8_takes_95 : decode cX8_takes 95 = .ok (.iload_n 2, 1) := by decide +kernel
theorem dX8_takes_96 : decode cX8_takes 96 = .ok (.iconst 1, 1) := by decide +kernel
theorem dX8_takes_97 : decode cX8_takes 97 = .ok (.iadd, 1) := by decide +kernel
theorem dX8_takes_98 : decode cX8_takes 98 = .ok (.ireturn, 1) := by decide +kernel
theorem dX8_take_0 : decode cX8_take 0 = .ok (.aload_n 0, 1) := by decide +kernel
theorem dX8_take_1 : decode cX8_take 1 = .ok (.invokevirtual 54, 3) := by decide +kernel
theorem dX8_take_4 : decode cX8_take 4 = .ok (.aload_n 0, 1) := by decide +kernel
theorem dX8_take_5 : decode cX8_take 5 = .ok (.aload_n 0, 1) := by decide +kernel
theorem dX8_take_6 : decode cX8_take 6 = .ok (.iload_n 1, 1) := by decide +kernel
theorem dX8_take_7 : decode cX8_take 7 = .ok (.invokevirtual 112, 3) := by decide +kernel
theorem dX8_take_10 : decode cX8_take 10 = .ok (.invokevirtual 57, 3) := by decide +kernel
theorem dX8_take_13 : decode cX8_take 13 = .ok (.ireturn, 1) := by decide +kernel
theorem dX8_goesHome_0 : decode cX8_goesHome 0 = .ok (.aload_n 0, 1) := by decide +kernel
theorem dX8_goesHome_1 : decode cX8_goesHome 1 = .ok (.getfield 7, 3) := by decide +kernel
theorem dX8_goesHome_4 : decode cX8_goesHome 4 = .ok (.bipush 8, 2) := by decide +kernel
theorem dX8_goesHome_6 : decode cX8_goesHome 6 = .ok (.iaload, 1) := by decide +kernel
theorem dX8_goesHome_7 : decode cX8_goesHome 7 = .ok (.ifCond .ge 6, 3) := by decide +kernel
theorem dX8_goesHome_10 : decode cX8_goesHome 10 = .ok (.ldc 64, 2) := by decide +kernel
theorem dX8_goesHome_12 : decode cX8_goesHome 12 = .ok (.ireturn, 1) := by decide +kernel
theorem dX8_goesHome_13 : decode cX8_goesHome 13 = .ok (.aload_n 0, 1) := by decide +kernel
theorem dX8_goesHome_14 : decode cX8_goesHome 14 = .ok (.getfield 7, 3) := by decide +kernel
theorem dX8_goesHome_17 : decode cX8_goesHome 17 = .ok (.bipush 7, 2) := by decide +kernel
theorem dX8_goesHome_19 : decode cX8_goesHome 19 = .ok (.iaload, 1) := by decide +kernel
theorem dX8_goesHome_20 : decode cX8_goesHome 20 = .ok (.aload_n 0, 1) := by decide +kernel
theorem dX8_goesHome_21 : decode cX8_goesHome 21 = .ok (.getfield 7, 3) := by decide +kernel
theorem dX8_goesHome_24 : decode cX8_goesHome 24 = .ok (.iconst 5, 1) := by decide +kernel
theorem dX8_goesHome_25 : decode cX8_goesHome 25 = .ok (.iaload, 1) := by decide +kernel
theorem dX8_goesHome_26 : decode cX8_goesHome 26 = .ok (.iadd, 1) := by decide +kernel
theorem dX8_goesHome_27 : decode cX8_goesHome 27 = .ok (.ldc 107, 2) := by decide +kernel
theorem dX8_goesHome_29 : decode cX8_goesHome 29 = .ok (.if_icmp .le 6, 3) := by decide +kernel
theorem dX8_goesHome_32 : decode cX8_goesHome 32 = .ok (.ldc 65, 2) := by decide +kernel
theorem dX8_goesHome_34 : decode cX8_goesHome 34 = .ok (.ireturn, 1) := by decide +kernel
theorem dX8_goesHome_35 : decode cX8_goesHome 35 = .ok (.aload_n 0, 1) := by decide +kernel
theorem dX8_goesHome_36 : decode cX8_goesHome 36 = .ok (.getfield 7, 3) := by decide +kernel
theorem dX8_goesHome_39 : decode cX8_goesHome 39 = .ok (.bipush 8, 2) := by decide +kernel
theorem dX8_goesHome_41 : decode cX8_goesHome 41 = .ok (.iaload, 1) := by decide +kernel
theorem dX8_goesHome_42 : decode cX8_goesHome 42 = .ok (.istore_n 1, 1) := by decide +kernel
theorem dX8_goesHome_43 : decode cX8_goesHome 43 = .ok (.aload_n 0, 1) := by decide +kernel
theorem dX8_goesHome_44 : decode cX8_goesHome 44 = .ok (.aload_n 0, 1) := by decide +kernel
theorem dX8_goesHome_45 : decode cX8_goesHome 45 = .ok (.getfield 7, 3) := by decide +kernel
theorem dX8_goesHome_48 : decode cX8_goesHome 48 = .ok (.iconst 5, 1) := by decide +kernel
theorem dX8_goesHome_49 : decode cX8_goesHome 49 = .ok (.iaload, 1) := by decide +kernel
theorem dX8_goesHome_50 : decode cX8_goesHome 50 = .ok (.invokevirtual 108, 3) := by decide +kernel
theorem dX8_goesHome_53 : decode cX8_goesHome 53 = .ok (.aload_n 0, 1) := by decide +kernel
theorem dX8_goesHome_54 : decode cX8_goesHome 54 = .ok (.getfield 7, 3) := by decide +kernel
theorem dX8_goesHome_57 : decode cX8_goesHome 57 = .ok (.bipush 8, 2) := by decide +kernel
theorem dX8_goesHome_59 : decode cX8_goesHome 59 = .ok (.iconst (-1), 1) := by decide +kernel
theorem dX8_goesHome_60 : decode cX8_goesHome 60 = .ok (.iastore, 1) := by decide +kernel
theorem dX8_goesHome_61 : decode cX8_goesHome 61 = .ok (.aload_n 0, 1) := by decide +kernel
theorem dX8_goesHome_62 : decode cX8_goesHome 62 = .ok (.getfield 7, 3) := by decide +kernel
theorem dX8_goesHome_65 : decode cX8_goesHome 65 = .ok (.bipush 11, 2) := by decide +kernel
theorem dX8_goesHome_67 : decode cX8_goesHome 67 = .ok (.dup2, 1) := by decide +kernel
theorem dX8_goesHome_68 : decode cX8_goesHome 68 = .ok (.iaload, 1) := by decide +kernel
theorem dX8_goesHome_69 : decode cX8_goesHome 69 = .ok (.iconst 1, 1) := by decide +kernel
theorem dX8_goesHome_70 : decode cX8_goesHome 70 = .ok (.iadd, 1) := by decide +kernel
theorem dX8_goesHome_71 : decode cX8_goesHome 71 = .ok (.iastore, 1) := by decide +kernel
theorem dX8_goesHome_72 : decode cX8_goesHome 72 = .ok (.iload_n 1, 1) := by decide +kernel
theorem dX8_goesHome_73 : decode cX8_goesHome 73 = .ok (.ireturn, 1) := by decide +kernel
theorem dX8_home_0 : decode cX8_home 0 = .ok (.aload_n 0, 1) := by decide +kernel
theorem dX8_home_1 : decode cX8_home 1 = .ok (.invokevirtual 54, 3) := by decide +kernel
theorem dX8_home_4 : decode cX8_home 4 = .ok (.aload_n 0, 1) := by decide +kernel
theorem dX8_home_5 : decode cX8_home 5 = .ok (.aload_n 0, 1) := by decide +kernel
theorem dX8_home_6 : decode cX8_home 6 = .ok (.invokevirtual 115, 3) := by decide +kernel
theorem dX8_home_9 : decode cX8_home 9 = .ok (.invokevirtual 57, 3) := by decide +kernel
theorem dX8_home_12 : decode cX8_home 12 = .ok (.ireturn, 1) := by decide +kernel
theorem dX8_far_0 : decode cX8_far 0 = .ok (.iload_n 1, 1) := by decide +kernel
theorem dX8_far_1 : decode cX8_far 1 = .ok (.aload_n 0, 1) := by decide +kernel
theorem dX8_far_2 : decode cX8_far 2 = .ok (.iload_n 3, 1) := by decide +kernel
theorem dX8_far_3 : decode cX8_far 3 = .ok (.iconst 2, 1) := by decide +kernel
theorem dX8_far_4 : decode cX8_far 4 = .ok (.iload 4, 2) := by decide +kernel
theorem dX8_far_6 : decode cX8_far 6 = .ok (.imul, 1) := by decide +kernel
theorem dX8_far_7 : decode cX8_far 7 = .ok (.invokevirtual 45, 3) := by decide +kernel
theorem dX8_far_10 : decode cX8_far 10 = .ok (.invokestatic 90, 3) := by decide +kernel
theorem dX8_far_13 : decode cX8_far 13 = .ok (.istore 5, 2) := by decide +kernel
theorem dX8_far_15 : decode cX8_far 15 = .ok (.iload_n 2, 1) := by decide +kernel
theorem dX8_far_16 : decode cX8_far 16 = .ok (.aload_n 0, 1) := by decide +kernel
theorem dX8_far_17 : decode cX8_far 17 = .ok (.iload_n 3, 1) := by decide +kernel
theorem dX8_far_18 : decode cX8_far 18 = .ok (.iconst 2, 1) := by decide +kernel
theorem dX8_far_19 : decode cX8_far 19 = .ok (.iload 4, 2) := by decide +kernel
theorem dX8_far_21 : decode cX8_far 21 = .ok (.imul, 1) := by decide +kernel
theorem dX8_far_22 : decode cX8_far 22 = .ok (.iconst 1, 1) := by decide +kernel
theorem dX8_far_23 : decode cX8_far 23 = .ok (.iadd, 1) := by decide +kernel
theorem dX8_far_24 : decode cX8_far 24 = .ok (.invokevirtual 45, 3) := by decide +kernel
theorem dX8_far_27 : decode cX8_far 27 = .ok (.invokestatic 90, 3) := by decide +kernel
theorem dX8_far_30 : decode cX8_far 30 = .ok (.istore 6, 2) := by decide +kernel
theorem dX8_far_32 : decode cX8_far 32 = .ok (.iload 5, 2) := by decide +kernel
theorem dX8_far_34 : decode cX8_far 34 = .ok (.iload 6, 2) := by decide +kernel
theorem dX8_far_36 : decode cX8_far 36 = .ok (.if_icmp .ge 8, 3) := by decide +kernel
theorem dX8_far_39 : decode cX8_far 39 = .ok (.iload 6, 2) := by decide +kernel
theorem dX8_far_41 : decode cX8_far 41 = .ok (.goto 5, 3) := by decide +kernel
theorem dX8_far_44 : decode cX8_far 44 = .ok (.iload 5, 2) := by decide +kernel
theorem dX8_far_46 : decode cX8_far 46 = .ok (.ireturn, 1) := by decide +kernel
theorem dX8_side_0 : decode cX8_side 0 = .ok (.iload_n 2, 1) := by decide +kernel
theorem dX8_side_1 : decode cX8_side 1 = .ok (.iload_n 0, 1) := by decide +kernel
theorem dX8_side_2 : decode cX8_side 2 = .ok (.isub, 1) := by decide +kernel
theorem dX8_side_3 : decode cX8_side 3 = .ok (.iload 5, 2) := by decide +kernel
theorem dX8_side_5 : decode cX8_side 5 = .ok (.iload_n 1, 1) := by decide +kernel
theorem dX8_side_6 : decode cX8_side 6 = .ok (.isub, 1) := by decide +kernel
theorem dX8_side_7 : decode cX8_side 7 = .ok (.imul, 1) := by decide +kernel
theorem dX8_side_8 : decode cX8_side 8 = .ok (.iload_n 3, 1) := by decide +kernel
theorem dX8_side_9 : decode cX8_side 9 = .ok (.iload_n 1, 1) := by decide +kernel
theorem dX8_side_10 : decode cX8_side 10 = .ok (.isub, 1) := by decide +kernel
theorem dX8_side_11 : decode cX8_side 11 = .ok (.iload 4, 2) := by decide +kernel
theorem dX8_side_13 : decode cX8_side 13 = .ok (.iload_n 0, 1) := by decide +kernel
theorem dX8_side_14 : decode cX8_side 14 = .ok (.isub, 1) := by decide +kernel
theorem dX8_side_15 : decode cX8_side 15 = .ok (.imul, 1) := by decide +kernel
theorem dX8_side_16 : decode cX8_side 16 = .ok (.isub, 1) := by decide +kernel
theorem dX8_side_17 : decode cX8_side 17 = .ok (.istore 6, 2) := by decide +kernel
theorem dX8_side_19 : decode cX8_side 19 = .ok (.iload 6, 2) := by decide +kernel
theorem dX8_side_21 : decode cX8_side 21 = .ok (.ifCond .ge 7, 3) := by decide +kernel
theorem dX8_side_24 : decode cX8_side 24 = .ok (.iconst (-1), 1) := by decide +kernel
theorem dX8_side_25 : decode cX8_side 25 = .ok (.goto 13, 3) := by decide +kernel
theorem dX8_side_28 : decode cX8_side 28 = .ok (.iload 6, 2) := by decide +kernel
theorem dX8_side_30 : decode cX8_side 30 = .ok (.ifCond .le 7, 3) := by decide +kernel
theorem dX8_side_33 : decode cX8_side 33 = .ok (.iconst 1, 1) := by decide +kernel
theorem dX8_side_34 : decode cX8_side 34 = .ok (.goto 4, 3) := by decide +kernel
theorem dX8_side_37 : decode cX8_side 37 = .ok (.iconst 0, 1) := by decide +kernel
theorem dX8_side_38 : decode cX8_side 38 = .ok (.ireturn, 1) := by decide +kernel
theorem dX8_isOn_0 : decode cX8_isOn 0 = .ok (.aload_n 0, 1) := by decide +kernel
theorem dX8_isOn_1 : decode cX8_isOn 1 = .ok (.iload_n 1, 1) := by decide +kernel
theorem dX8_isOn_2 : decode cX8_isOn 2 = .ok (.iconst 0, 1) := by decide +kernel
theorem dX8_isOn_3 : decode cX8_isOn 3 = .ok (.invokevirtual 45, 3) := by decide +kernel
theorem dX8_isOn_6 : decode cX8_isOn 6 = .ok (.aload_n 0, 1) := by decide +kernel
theorem dX8_isOn_7 : decode cX8_isOn 7 = .ok (.iload_n 1, 1) := by decide +kernel
theorem dX8_isOn_8 : decode cX8_isOn 8 = .ok (.iconst 1, 1) := by decide +kernel
theorem dX8_isOn_9 : decode cX8_isOn 9 = .ok (.invokevirtual 45, 3) := by decide +kernel
theorem dX8_isOn_12 : decode cX8_isOn 12 = .ok (.aload_n 0, 1) := by decide +kernel
theorem dX8_isOn_13 : decode cX8_isOn 13 = .ok (.iload_n 1, 1) := by decide +kernel
theorem dX8_isOn_14 : decode cX8_isOn 14 = .ok (.iconst 2, 1) := by decide +kernel
theorem dX8_isOn_15 : decode cX8_isOn 15 = .ok (.invokevirtual 45, 3) := by decide +kernel
theorem dX8_isOn_18 : decode cX8_isOn 18 = .ok (.aload_n 0, 1) := by decide +kernel
theorem dX8_isOn_19 : decode cX8_isOn 19 = .ok (.iload_n 1, 1) := by decide +kernel
theorem dX8_isOn_20 : decode cX8_isOn 20 = .ok (.iconst 3, 1) := by decide +kernel
theorem dX8_isOn_21 : decode cX8_isOn 21 = .ok (.invokevirtual 45, 3) := by decide +kernel
theorem dX8_isOn_24 : decode cX8_isOn 24 = .ok (.iload_n 2, 1) := by decide +kernel
theorem dX8_isOn_25 : decode cX8_isOn 25 = .ok (.iload_n 3, 1) := by decide +kernel
theorem dX8_isOn_26 : decode cX8_isOn 26 = .ok (.invokestatic 118, 3) := by decide +kernel
theorem dX8_isOn_29 : decode cX8_isOn 29 = .ok (.ifCond .ne 7, 3) := by decide +kernel
theorem dX8_isOn_32 : decode cX8_isOn 32 = .ok (.iconst 1, 1) := by decide +kernel
theorem dX8_isOn_33 : decode cX8_isOn 33 = .ok (.goto 4, 3) := by decide +kernel
theorem dX8_isOn_36 : decode cX8_isOn 36 = .ok (.iconst 0, 1) := by decide +kernel
theorem dX8_isOn_37 : decode cX8_isOn 37 = .ok (.istore 4, 2) := by decide +kernel
theorem dX8_isOn_39 : decode cX8_isOn 39 = .ok (.iload 4, 2) := by decide +kernel
theorem dX8_isOn_41 : decode cX8_isOn 41 = .ok (.ifCond .eq 47, 3) := by decide +kernel
theorem dX8_isOn_44 : decode cX8_isOn 44 = .ok (.iload_n 2, 1) := by decide +kernel
theorem dX8_isOn_45 : decode cX8_isOn 45 = .ok (.aload_n 0, 1) := by decide +kernel
theorem dX8_isOn_46 : decode cX8_isOn 46 = .ok (.iload_n 1, 1) := by decide +kernel
theorem dX8_isOn_47 : decode cX8_isOn 47 = .ok (.iconst 0, 1) := by decide +kernel
theorem dX8_isOn_48 : decode cX8_isOn 48 = .ok (.invokevirtual 45, 3) := by decide +kernel
theorem dX8_isOn_51 : decode cX8_isOn 51 = .ok (.isub, 1) := by decide +kernel
theorem dX8_isOn_52 : decode cX8_isOn 52 = .ok (.iload_n 2, 1) := by decide +kernel
theorem dX8_isOn_53 : decode cX8_isOn 53 = .ok (.aload_n 0, 1) := by decide +kernel
theorem dX8_isOn_54 : decode cX8_isOn 54 = .ok (.iload_n 1, 1) := by decide +kernel
theorem dX8_isOn_55 : decode cX8_isOn 55 = .ok (.iconst 2, 1) := by decide +kernel
theorem dX8_isOn_56 : decode cX8_isOn 56 = .ok (.invokevirtual 45, 3) := by decide +kernel
theorem dX8_isOn_59 : decode cX8_isOn 59 = .ok (.isub, 1) := by decide +kernel
theorem dX8_isOn_60 : decode cX8_isOn 60 = .ok (.imul, 1) := by decide +kernel
theorem dX8_isOn_61 : decode cX8_isOn 61 = .ok (.ifCond .gt 27, 3) := by decide +kernel
theorem dX8_isOn_64 : decode cX8_isOn 64 = .ok (.iload_n 3, 1) := by decide +kernel
theorem dX8_isOn_65 : decode cX8_isOn 65 = .ok (.aload_n 0, 1) := by decide +kernel
theorem dX8_isOn_66 : decode cX8_isOn 66 = .ok (.iload_n 1, 1) := by decide +kernel
theorem dX8_isOn_67 : decode cX8_isOn 67 = .ok (.iconst 1, 1) := by decide +kernel
theorem dX8_isOn_68 : decode cX8_isOn 68 = .ok (.invokevirtual 45, 3) := by decide +kernel
theorem dX8_isOn_71 : decode cX8_isOn 71 = .ok (.isub, 1) := by decide +kernel
theorem dX8_isOn_72 : decode cX8_isOn 72 = .ok (.iload_n 3, 1) := by decide +kernel
theorem dX8_isOn_73 : decode cX8_isOn 73 = .ok (.aload_n 0, 1) := by decide +kernel
theorem dX8_isOn_74 : decode cX8_isOn 74 = .ok (.iload_n 1, 1) := by decide +kernel
theorem dX8_isOn_75 : decode cX8_isOn 75 = .ok (.iconst 3, 1) := by decide +kernel
theorem dX8_isOn_76 : decode cX8_isOn 76 = .ok (.invokevirtual 45, 3) := by decide +kernel
theorem dX8_isOn_79 : decode cX8_isOn 79 = .ok (.isub, 1) := by decide +kernel
theorem dX8_isOn_80 : decode cX8_isOn 80 = .ok (.imul, 1) := by decide +kernel
theorem dX8_isOn_81 : decode cX8_isOn 81 = .ok (.ifCond .gt 7, 3) := by decide +kernel
theorem dX8_isOn_84 : decode cX8_isOn 84 = .ok (.iconst 1, 1) := by decide +kernel
theorem dX8_isOn_85 : decode cX8_isOn 85 = .ok (.goto 4, 3) := by decide +kernel
theorem dX8_isOn_88 : decode cX8_isOn 88 = .ok (.iconst 0, 1) := by decide +kernel
theorem dX8_isOn_89 : decode cX8_isOn 89 = .ok (.ireturn, 1) := by decide +kernel
theorem dX8_touches_0 : decode cX8_touches 0 = .ok (.aload_n 0, 1) := by decide +kernel
theorem dX8_touches_1 : decode cX8_touches 1 = .ok (.iload_n 1, 1) := by decide +kernel
theorem dX8_touches_2 : decode cX8_touches 2 = .ok (.iconst 0, 1) := by decide +kernel
theorem dX8_touches_3 : decode cX8_touches 3 = .ok (.invokevirtual 45, 3) := by decide +kernel
theorem dX8_touches_6 : decode cX8_touches 6 = .ok (.aload_n 0, 1) := by decide +kernel
theorem dX8_touches_7 : decode cX8_touches 7 = .ok (.iload_n 1, 1) := by decide +kernel
theorem dX8_touches_8 : decode cX8_touches 8 = .ok (.iconst 1, 1) := by decide +kernel
theorem dX8_touches_9 : decode cX8_touches 9 = .ok (.invokevirtual 45, 3) := by decide +kernel
theorem dX8_touches_12 : decode cX8_touches 12 = .ok (.aload_n 0, 1) := by decide +kernel
theorem dX8_touches_13 : decode cX8_touches 13 = .ok (.iload_n 1, 1) := by decide +kernel
theorem dX8_touches_14 : decode cX8_touches 14 = .ok (.iconst 2, 1) := by decide +kernel
theorem dX8_touches_15 : decode cX8_touches 15 = .ok (.invokevirtual 45, 3) := by decide +kernel
theorem dX8_touches_18 : decode cX8_touches 18 = .ok (.aload_n 0, 1) := by decide +kernel
theorem dX8_touches_19 : decode cX8_touches 19 = .ok (.iload_n 1, 1) := by decide +kernel
theorem dX8_touches_20 : decode cX8_touches 20 = .ok (.iconst 3, 1) := by decide +kernel
theorem dX8_touches_21 : decode cX8_touches 21 = .ok (.invokevirtual 45, 3) := by decide +kernel
theorem dX8_touches_24 : decode cX8_touches 24 = .ok (.aload_n 0, 1) := by decide +kernel
theorem dX8_touches_25 : decode cX8_touches 25 = .ok (.iload_n 2, 1) := by decide +kernel
theorem dX8_touches_26 : decode cX8_touches 26 = .ok (.iconst 0, 1) := by decide +kernel
theorem dX8_touches_27 : decode cX8_touches 27 = .ok (.invokevirtual 45, 3) := by decide +kernel
theorem dX8_touches_30 : decode cX8_touches 30 = .ok (.aload_n 0, 1) := by decide +kernel
theorem dX8_touches_31 : decode cX8_touches 31 = .ok (.iload_n 2, 1) := by decide +kernel
theorem dX8_touches_32 : decode cX8_touches 32 = .ok (.iconst 1, 1) := by decide +kernel
theorem dX8_touches_33 : decode cX8_touches 33 = .ok (.invokevirtual 45, 3) := by decide +kernel
theorem dX8_touches_36 : decode cX8_touches 36 = .ok (.invokestatic 118, 3) := by decide +kernel
theorem dX8_touches_39 : decode cX8_touches 39 = .ok (.aload_n 0, 1) := by decide +kernel
theorem dX8_touches_40 : decode cX8_touches 40 = .ok (.iload_n 1, 1) := by decide +kernel
theorem dX8_touches_41 : decode cX8_touches 41 = .ok (.iconst 0, 1) := by decide +kernel
theorem dX8_touches_42 : decode cX8_touches 42 = .ok (.invokevirtual 45, 3) := by decide +kernel
theorem dX8_touches_45 : decode cX8_touches 45 = .ok (.aload_n 0, 1) := by decide +kernel
theorem dX8_touches_46 : decode cX8_touches 46 = .ok (.iload_n 1, 1) := by decide +kernel
theorem dX8_touches_47 : decode cX8_touches 47 = .ok (.iconst 1, 1) := by decide +kernel
theorem dX8_touches_48 : decode cX8_touches 48 = .ok (.invokevirtual 45, 3) := by decide +kernel
theorem dX8_touches_51 : decode cX8_touches 51 = .ok (.aload_n 0, 1) := by decide +kernel
theorem dX8_touches_52 : decode cX8_touches 52 = .ok (.iload_n 1, 1) := by decide +kernel
theorem dX8_touches_53 : decode cX8_touches 53 = .ok (.iconst 2, 1) := by decide +kernel
theorem dX8_touches_54 : decode cX8_touches 54 = .ok (.invokevirtual 45, 3) := by decide +kernel
theorem dX8_touches_57 : decode cX8_touches 57 = .ok (.aload_n 0, 1) := by decide +kernel
theorem dX8_touches_58 : decode cX8_touches 58 = .ok (.iload_n 1, 1) := by decide +kernel
theorem dX8_touches_59 : decode cX8_touches 59 = .ok (.iconst 3, 1) := by decide +kernel
theorem dX8_touches_60 : decode cX8_touches 60 = .ok (.invokevirtual 45, 3) := by decide +kernel
theorem dX8_touches_63 : decode cX8_touches 63 = .ok (.aload_n 0, 1) := by decide +kernel
theorem dX8_touches_64 : decode cX8_touches 64 = .ok (.iload_n 2, 1) := by decide +kernel
theorem dX8_touches_65 : decode cX8_touches 65 = .ok (.iconst 2, 1) := by decide +kernel
theorem dX8_touches_66 : decode cX8_touches 66 = .ok (.invokevirtual 45, 3) := by decide +kernel
theorem dX8_touches_69 : decode cX8_touches 69 = .ok (.aload_n 0, 1) := by decide +kernel
theorem dX8_touches_70 : decode cX8_touches 70 = .ok (.iload_n 2, 1) := by decide +kernel
theorem dX8_touches_71 : decode cX8_touches 71 = .ok (.iconst 3, 1) := by decide +kernel
theorem dX8_touches_72 : decode cX8_touches 72 = .ok (.invokevirtual 45, 3) := by decide +kernel
theorem dX8_touches_75 : decode cX8_touches 75 = .ok (.invokestatic 118, 3) := by decide +kernel
theorem dX8_touches_78 : decode cX8_touches 78 = .ok (.imul, 1) := by decide +kernel
theorem dX8_touches_79 : decode cX8_touches 79 = .ok (.istore_n 3, 1) := by decide +kernel
theorem dX8_touches_80 : decode cX8_touches 80 = .ok (.aload_n 0, 1) := by decide +kernel
theorem dX8_touches_81 : decode cX8_touches 81 = .ok (.iload_n 2, 1) := by decide +kernel
theorem dX8_touches_82 : decode cX8_touches 82 = .ok (.iconst 0, 1) := by decide +kernel
theorem dX8_touches_83 : decode cX8_touches 83 = .ok (.invokevirtual 45, 3) := by decide +kernel
theorem dX8_touches_86 : decode cX8_touches 86 = .ok (.aload_n 0, 1) := by decide +kernel
theorem dX8_touches_87 : decode cX8_touches 87 = .ok (.iload_n 2, 1) := by decide +kernel
theorem dX8_touches_88 : decode cX8_touches 88 = .ok (.iconst 1, 1) := by decide +kernel
theorem dX8_touches_89 : decode cX8_touches 89 = .ok (.invokevirtual 45, 3) := by decide +kernel
theorem dX8_touches_92 : decode cX8_touches 92 = .ok (.aload_n 0, 1) := by decide +kernel
theorem dX8_touches_93 : decode cX8_touches 93 = .ok (.iload_n 2, 1) := by decide +kernel
theorem dX8_touches_94 : decode cX8_touches 94 = .ok (.iconst 2, 1) := by decide +kernel
theorem dX8_touches_95 : decode cX8_touches 95 = .ok (.invokevirtual 45, 3) := by decide +kernel
theorem dX8_touches_98 : decode cX8_touches 98 = .ok (.aload_n 0, 1) := by decide +kernel
theorem dX8_touches_99 : decode cX8_touches 99 = .ok (.iload_n 2, 1) := by decide +kernel
theorem dX8_touches_100 : decode cX8_touches 100 = .ok (.iconst 3, 1) := by decide +kernel
theorem dX8_touches_101 : decode cX8_touches 101 = .ok (.invokevirtual 45, 3) := by decide +kernel
theorem dX8_touches_104 : decode cX8_touches 104 = .ok (.aload_n 0, 1) := by decide +kernel
theorem dX8_touches_105 : decode cX8_touches 105 = .ok (.iload_n 1, 1) := by decide +kernel
theorem dX8_touches_106 : decode cX8_touches 106 = .ok (.iconst 0, 1) := by decide +kernel
theorem dX8_touches_107 : decode cX8_touches 107 = .ok (.invokevirtual 45, 3) := by decide +kernel
theorem dX8_touches_110 : decode cX8_touches 110 = .ok (.aload_n 0, 1) := by decide +kernel
theorem dX8_touches_111 : decode cX8_touches 111 = .ok (.iload_n 1, 1) := by decide +kernel
theorem dX8_touches_112 : decode cX8_touches 112 = .ok (.iconst 1, 1) := by decide +kernel
theorem dX8_touches_113 : decode cX8_touches 113 = .ok (.invokevirtual 45, 3) := by decide +kernel
theorem dX8_touches_116 : decode cX8_touches 116 = .ok (.invokestatic 118, 3) := by decide +kernel
theorem dX8_touches_119 : decode cX8_touches 119 = .ok (.aload_n 0, 1) := by decide +kernel
theorem dX8_touches_120 : decode cX8_touches 120 = .ok (.iload_n 2, 1) := by decide +kernel
theorem dX8_touches_121 : decode cX8_touches 121 = .ok (.iconst 0, 1) := by decide +kernel
theorem dX8_touches_122 : decode cX8_touches 122 = .ok (.invokevirtual 45, 3) := by decide +kernel
theorem dX8_touches_125 : decode cX8_touches 125 = .ok (.aload_n 0, 1) := by decide +kernel
theorem dX8_touches_126 : decode cX8_touches 126 = .ok (.iload_n 2, 1) := by decide +kernel
theorem dX8_touches_127 : decode cX8_touches 127 = .ok (.iconst 1, 1) := by decide +kernel
theorem dX8_touches_128 : decode cX8_touches 128 = .ok (.invokevirtual 45, 3) := by decide +kernel
theorem dX8_touches_131 : decode cX8_touches 131 = .ok (.aload_n 0, 1) := by decide +kernel
theorem dX8_touches_132 : decode cX8_touches 132 = .ok (.iload_n 2, 1) := by decide +kernel
theorem dX8_touches_133 : decode cX8_touches 133 = .ok (.iconst 2, 1) := by decide +kernel
theorem dX8_touches_134 : decode cX8_touches 134 = .ok (.invokevirtual 45, 3) := by decide +kernel
theorem dX8_touches_137 : decode cX8_touches 137 = .ok (.aload_n 0, 1) := by decide +kernel
theorem dX8_touches_138 : decode cX8_touches 138 = .ok (.iload_n 2, 1) := by decide +kernel
theorem dX8_touches_139 : decode cX8_touches 139 = .ok (.iconst 3, 1) := by decide +kernel
theorem dX8_touches_140 : decode cX8_touches 140 = .ok (.invokevirtual 45, 3) := by decide +kernel
theorem dX8_touches_143 : decode cX8_touches 143 = .ok (.aload_n 0, 1) := by decide +kernel
theorem dX8_touches_144 : decode cX8_touches 144 = .ok (.iload_n 1, 1) := by decide +kernel
theorem dX8_touches_145 : decode cX8_touches 145 = .ok (.iconst 2, 1) := by decide +kernel
theorem dX8_touches_146 : decode cX8_touches 146 = .ok (.invokevirtual 45, 3) := by decide +kernel
theorem dX8_touches_149 : decode cX8_touches 149 = .ok (.aload_n 0, 1) := by decide +kernel
theorem dX8_touches_150 : decode cX8_touches 150 = .ok (.iload_n 1, 1) := by decide +kernel
theorem dX8_touches_151 : decode cX8_touches 151 = .ok (.iconst 3, 1) := by decide +kernel
theorem dX8_touches_152 : decode cX8_touches 152 = .ok (.invokevirtual 45, 3) := by decide +kernel
theorem dX8_touches_155 : decode cX8_touches 155 = .ok (.invokestatic 118, 3) := by decide +kernel
theorem dX8_touches_158 : decode cX8_touches 158 = .ok (.imul, 1) := by decide +kernel
theorem dX8_touches_159 : decode cX8_touches 159 = .ok (.istore 4, 2) := by decide +kernel
theorem dX8_touches_161 : decode cX8_touches 161 = .ok (.aload_n 0, 1) := by decide +kernel
theorem dX8_touches_162 : decode cX8_touches 162 = .ok (.iload_n 1, 1) := by decide +kernel
theorem dX8_touches_163 : decode cX8_touches 163 = .ok (.aload_n 0, 1) := by decide +kernel
theorem dX8_touches_164 : decode cX8_touches 164 = .ok (.iload_n 2, 1) := by decide +kernel
theorem dX8_touches_165 : decode cX8_touches 165 = .ok (.iconst 0, 1) := by decide +kernel
theorem dX8_touches_166 : decode cX8_touches 166 = .ok (.invokevirtual 45, 3) := by decide +kernel
theorem dX8_touches_169 : decode cX8_touches 169 = .ok (.aload_n 0, 1) := by decide +kernel
theorem dX8_touches_170 : decode cX8_touches 170 = .ok (.iload_n 2, 1) := by decide +kernel
theorem dX8_touches_171 : decode cX8_touches 171 = .ok (.iconst 1, 1) := by decide +kernel
theorem dX8_touches_172 : decode cX8_touches 172 = .ok (.invokevirtual 45, 3) := by decide +kernel
theorem dX8_touches_175 : decode cX8_touches 175 = .ok (.invokevirtual 122, 3) := by decide +kernel
theorem dX8_touches_178 : decode cX8_touches 178 = .ok (.ifCond .ne 63, 3) := by decide +kernel
theorem dX8_touches_181 : decode cX8_touches 181 = .ok (.aload_n 0, 1) := by decide +kernel
theorem dX8_touches_182 : decode cX8_touches 182 = .ok (.iload_n 1, 1) := by decide +kernel
theorem dX8_touches_183 : decode cX8_touches 183 = .ok (.aload_n 0, 1) := by decide +kernel
theorem dX8_touches_184 : decode cX8_touches 184 = .ok (.iload_n 2, 1) := by decide +kernel
theorem dX8_touches_185 : decode cX8_touches 185 = .ok (.iconst 2, 1) := by decide +kernel
theorem dX8_touches_186 : decode cX8_touches 186 = .ok (.invokevirtual 45, 3) := by decide +kernel
theorem dX8_touches_189 : decode cX8_touches 189 = .ok (.aload_n 0, 1) := by decide +kernel
theorem dX8_touches_190 : decode cX8_touches 190 = .ok (.iload_n 2, 1) := by decide +kernel
theorem dX8_touches_191 : decode cX8_touches 191 = .ok (.iconst 3, 1) := by decide +kernel
theorem dX8_touches_192 : decode cX8_touches 192 = .ok (.invokevirtual 45, 3) := by decide +kernel
theorem dX8_touches_195 : decode cX8_touches 195 = .ok (.invokevirtual 122, 3) := by decide +kernel
theorem dX8_touches_198 : decode cX8_touches 198 = .ok (.ifCond .ne 43, 3) := by decide +kernel
theorem dX8_touches_201 : decode cX8_touches 201 = .ok (.aload_n 0, 1) := by decide +kernel
theorem dX8_touches_202 : decode cX8_touches 202 = .ok (.iload_n 2, 1) := by decide +kernel
theorem dX8_touches_203 : decode cX8_touches 203 = .ok (.aload_n 0, 1) := by decide +kernel
theorem dX8_touches_204 : decode cX8_touches 204 = .ok (.iload_n 1, 1) := by decide +kernel
theorem dX8_touches_205 : decode cX8_touches 205 = .ok (.iconst 0, 1) := by decide +kernel
theorem dX8_touches_206 : decode cX8_touches 206 = .ok (.invokevirtual 45, 3) := by decide +kernel
theorem dX8_touches_209 : decode cX8_touches 209 = .ok (.aload_n 0, 1) := by decide +kernel
theorem dX8_touches_210 : decode cX8_touches 210 = .ok (.iload_n 1, 1) := by decide +kernel
theorem dX8_touches_211 : decode cX8_touches 211 = .ok (.iconst 1, 1) := by decide +kernel
theorem dX8_touches_212 : decode cX8_touches 212 = .ok (.invokevirtual 45, 3) := by decide +kernel
theorem dX8_touches_215 : decode cX8_touches 215 = .ok (.invokevirtual 122, 3) := by decide +kernel
theorem dX8_touches_218 : decode cX8_touches 218 = .ok (.ifCond .ne 23, 3) := by decide +kernel
theorem dX8_touches_221 : decode cX8_touches 221 = .ok (.aload_n 0, 1) := by decide +kernel
theorem dX8_touches_222 : decode cX8_touches 222 = .ok (.iload_n 2, 1) := by decide +kernel
theorem dX8_touches_223 : decode cX8_touches 223 = .ok (.aload_n 0, 1) := by decide +kernel
theorem dX8_touches_224 : decode cX8_touches 224 = .ok (.iload_n 1, 1) := by decide +kernel
theorem dX8_touches_225 : decode cX8_touches 225 = .ok (.iconst 2, 1) := by decide +kernel
theorem dX8_touches_226 : decode cX8_touches 226 = .ok (.invokevirtual 45, 3) := by decide +kernel
theorem dX8_touches_229 : decode cX8_touches 229 = .ok (.aload_n 0, 1) := by decide +kernel
theorem dX8_touches_230 : decode cX8_touches 230 = .ok (.iload_n 1, 1) := by decide +kernel
theorem dX8_touches_231 : decode cX8_touches 231 = .ok (.iconst 3, 1) := by decide +kernel
theorem dX8_touches_232 : decode cX8_touches 232 = .ok (.invokevirtual 45, 3) := by decide +kernel
theorem dX8_touches_235 : decode cX8_touches 235 = .ok (.invokevirtual 122, 3) := by decide +kernel
theorem dX8_touches_238 : decode cX8_touches 238 = .ok (.ifCond .eq 7, 3) := by decide +kernel
theorem dX8_touches_241 : decode cX8_touches 241 = .ok (.iconst 1, 1) := by decide +kernel
theorem dX8_touches_242 : decode cX8_touches 242 = .ok (.goto 4, 3) := by decide +kernel
theorem dX8_touches_245 : decode cX8_touches 245 = .ok (.iconst 0, 1) := by decide +kernel
theorem dX8_touches_246 : decode cX8_touches 246 = .ok (.istore 5, 2) := by decide +kernel
theorem dX8_touches_248 : decode cX8_touches 248 = .ok (.iload 5, 2) := by decide +kernel
theorem dX8_touches_250 : decode cX8_touches 250 = .ok (.ifCond .ne 12, 3) := by decide +kernel
theorem dX8_touches_253 : decode cX8_touches 253 = .ok (.iload_n 3, 1) := by decide +kernel
theorem dX8_touches_254 : decode cX8_touches 254 = .ok (.ifCond .ge 12, 3) := by decide +kernel
theorem dX8_touches_257 : decode cX8_touches 257 = .ok (.iload 4, 2) := by decide +kernel
theorem dX8_touches_259 : decode cX8_touches 259 = .ok (.ifCond .ge 7, 3) := by decide +kernel
theorem dX8_touches_262 : decode cX8_touches 262 = .ok (.iconst 1, 1) := by decide +kernel
theorem dX8_touches_263 : decode cX8_touches 263 = .ok (.goto 4, 3) := by decide +kernel
theorem dX8_touches_266 : decode cX8_touches 266 = .ok (.iconst 0, 1) := by decide +kernel
theorem dX8_touches_267 : decode cX8_touches 267 = .ok (.ireturn, 1) := by decide +kernel
theorem dX8_isWetBeside_0 : decode cX8_isWetBeside 0 = .ok (.iconst 0, 1) := by decide +kernel
theorem dX8_isWetBeside_1 : decode cX8_isWetBeside 1 = .ok (.istore_n 3, 1) := by decide +kernel
theorem dX8_isWetBeside_2 : decode cX8_isWetBeside 2 = .ok (.iconst 0, 1) := by decide +kernel
theorem dX8_isWetBeside_3 : decode cX8_isWetBeside 3 = .ok (.istore 4, 2) := by decide +kernel
theorem dX8_isWetBeside_5 : decode cX8_isWetBeside 5 = .ok (.iload 4, 2) := by decide +kernel
theorem dX8_isWetBeside_7 : decode cX8_isWetBeside 7 = .ok (.aload_n 0, 1) := by decide +kernel
theorem dX8_isWetBeside_8 : decode cX8_isWetBeside 8 = .ok (.getfield 7, 3) := by decide +kernel
theorem dX8_isWetBeside_11 : decode cX8_isWetBeside 11 = .ok (.iconst 1, 1) := by decide +kernel
theorem dX8_isWetBeside_12 : decode cX8_isWetBeside 12 = .ok (.iaload, 1) := by decide +kernel
theorem dX8_isWetBeside_13 : decode cX8_isWetBeside 13 = .ok (.if_icmp .ge 56, 3) := by decide +kernel
theorem dX8_isWetBeside_16 : decode cX8_isWetBeside 16 = .ok (.iload_n 3, 1) := by decide +kernel
theorem dX8_isWetBeside_17 : decode cX8_isWetBeside 17 = .ok (.ifCond .ne 40, 3) := by decide +kernel
theorem dX8_isWetBeside_20 : decode cX8_isWetBeside 20 = .ok (.aload_n 0, 1) := by decide +kernel
theorem dX8_isWetBeside_21 : decode cX8_isWetBeside 21 = .ok (.iload 4, 2) := by decide +kernel
theorem dX8_isWetBeside_23 : decode cX8_isWetBeside 23 = .ok (.iload_n 2, 1) := by decide +kernel
theorem dX8_isWetBeside_24 : decode cX8_isWetBeside 24 = .ok (.invokevirtual 103, 3) := by decide +kernel
theorem dX8_isWetBeside_27 : decode cX8_isWetBeside 27 = .ok (.ifCond .eq 34, 3) := by decide +kernel
theorem dX8_isWetBeside_30 : decode cX8_isWetBeside 30 = .ok (.aload_n 0, 1) := by decide +kernel
theorem dX8_isWetBeside_31 : decode cX8_isWetBeside 31 = .ok (.iload 4, 2) := by decide +kernel
theorem dX8_isWetBeside_33 : decode cX8_isWetBeside 33 = .ok (.iconst 4, 1) := by decide +kernel
theorem dX8_isWetBeside_34 : decode cX8_isWetBeside 34 = .ok (.invokevirtual 45, 3) := by decide +kernel
theorem dX8_isWetBeside_37 : decode cX8_isWetBeside 37 = .ok (.aload_n 0, 1) := by decide +kernel
theorem dX8_isWetBeside_38 : decode cX8_isWetBeside 38 = .ok (.getfield 7, 3) := by decide +kernel
theorem dX8_isWetBeside_41 : decode cX8_isWetBeside 41 = .ok (.bipush 8, 2) := by decide +kernel
theorem dX8_isWetBeside_43 : decode cX8_isWetBeside 43 = .ok (.iaload, 1) := by decide +kernel
theorem dX8_isWetBeside_44 : decode cX8_isWetBeside 44 = .ok (.if_icmp .eq 17, 3) := by decide +kernel
theorem dX8_isWetBeside_47 : decode cX8_isWetBeside 47 = .ok (.aload_n 0, 1) := by decide +kernel
theorem dX8_isWetBeside_48 : decode cX8_isWetBeside 48 = .ok (.iload_n 1, 1) := by decide +kernel
theorem dX8_isWetBeside_49 : decode cX8_isWetBeside 49 = .ok (.iload 4, 2) := by decide +kernel
theorem dX8_isWetBeside_51 : decode cX8_isWetBeside 51 = .ok (.invokevirtual 125, 3) := by decide +kernel
theorem dX8_isWetBeside_54 : decode cX8_isWetBeside 54 = .ok (.ifCond .eq 7, 3) := by decide +kernel
theorem dX8_isWetBeside_57 : decode cX8_isWetBeside 57 = .ok (.iconst 1, 1) := by decide +kernel
theorem dX8_isWetBeside_58 : decode cX8_isWetBeside 58 = .ok (.goto 4, 3) := by decide +kernel
theorem dX8_isWetBeside_61 : decode cX8_isWetBeside 61 = .ok (.iconst 0, 1) := by decide +kernel
theorem dX8_isWetBeside_62 : decode cX8_isWetBeside 62 = .ok (.istore_n 3, 1) := by decide +kernel
theorem dX8_isWetBeside_63 : decode cX8_isWetBeside 63 = .ok (.iinc 4 1, 3) := by decide +kernel
theorem dX8_isWetBeside_66 : decode cX8_isWetBeside 66 = .ok (.goto (-61), 3) := by decide +kernel
theorem dX8_isWetBeside_69 : decode cX8_isWetBeside 69 = .ok (.iload_n 3, 1) := by decide +kernel
theorem dX8_isWetBeside_70 : decode cX8_isWetBeside 70 = .ok (.ireturn, 1) := by decide +kernel
theorem dX8_uses_0 : decode cX8_uses 0 = .ok (.aload_n 0, 1) := by decide +kernel
theorem dX8_uses_1 : decode cX8_uses 1 = .ok (.aload_n 0, 1) := by decide +kernel
theorem dX8_uses_2 : decode cX8_uses 2 = .ok (.getfield 7, 3) := by decide +kernel
theorem dX8_uses_5 : decode cX8_uses 5 = .ok (.bipush 8, 2) := by decide +kernel
theorem dX8_uses_7 : decode cX8_uses 7 = .ok (.iaload, 1) := by decide +kernel
theorem dX8_uses_8 : decode cX8_uses 8 = .ok (.iconst 0, 1) := by decide +kernel
theorem dX8_uses_9 : decode cX8_uses 9 = .ok (.invokevirtual 61, 3) := by decide +kernel
theorem dX8_uses_12 : decode cX8_uses 12 = .ok (.iconst 1, 1) := by decide +kernel
theorem dX8_uses_13 : decode cX8_uses 13 = .ok (.if_icmp .ne 13, 3) := by decide +kernel
theorem dX8_uses_16 : decode cX8_uses 16 = .ok (.iconst 2, 1) := by decide +kernel
theorem dX8_uses_17 : decode cX8_uses 17 = .ok (.aload_n 0, 1) := by decide +kernel
theorem dX8_uses_18 : decode cX8_uses 18 = .ok (.iload_n 1, 1) := by decide +kernel
theorem dX8_uses_19 : decode cX8_uses 19 = .ok (.invokevirtual 99, 3) := by decide +kernel
theorem dX8_uses_22 : decode cX8_uses 22 = .ok (.imul, 1) := by decide +kernel
theorem dX8_uses_23 : decode cX8_uses 23 = .ok (.goto 8, 3) := by decide +kernel
theorem dX8_uses_26 : decode cX8_uses 26 = .ok (.aload_n 0, 1) := by decide +kernel
theorem dX8_uses_27 : decode cX8_uses 27 = .ok (.iload_n 1, 1) := by decide +kernel
theorem dX8_uses_28 : decode cX8_uses 28 = .ok (.invokevirtual 99, 3) := by decide +kernel
theorem dX8_uses_31 : decode cX8_uses 31 = .ok (.ireturn, 1) := by decide +kernel
theorem dX8_why_0 : decode cX8_why 0 = .ok (.aload_n 0, 1) := by decide +kernel
theorem dX8_why_1 : decode cX8_why 1 = .ok (.getfield 7, 3) := by decide +kernel
theorem dX8_why_4 : decode cX8_why 4 = .ok (.bipush 8, 2) := by decide +kernel
theorem dX8_why_6 : decode cX8_why 6 = .ok (.iaload, 1) := by decide +kernel
theorem dX8_why_7 : decode cX8_why 7 = .ok (.istore 4, 2) := by decide +kernel
theorem dX8_why_9 : decode cX8_why 9 = .ok (.aload_n 0, 1) := by decide +kernel
