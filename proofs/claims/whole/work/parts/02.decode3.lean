theorem dX8_why_10 : decode cX8_why 10 = .ok (.getfield 7, 3) := by decide +kernel
theorem dX8_why_13 : decode cX8_why 13 = .ok (.bipush 7, 2) := by decide +kernel
theorem dX8_why_15 : decode cX8_why 15 = .ok (.iaload, 1) := by decide +kernel
theorem dX8_why_16 : decode cX8_why 16 = .ok (.iload_n 3, 1) := by decide +kernel
theorem dX8_why_17 : decode cX8_why 17 = .ok (.iadd, 1) := by decide +kernel
theorem dX8_why_18 : decode cX8_why 18 = .ok (.istore 5, 2) := by decide +kernel
theorem dX8_why_20 : decode cX8_why 20 = .ok (.aload_n 0, 1) := by decide +kernel
theorem dX8_why_21 : decode cX8_why 21 = .ok (.aload_n 0, 1) := by decide +kernel
theorem dX8_why_22 : decode cX8_why 22 = .ok (.getfield 7, 3) := by decide +kernel
theorem dX8_why_25 : decode cX8_why 25 = .ok (.bipush 9, 2) := by decide +kernel
theorem dX8_why_27 : decode cX8_why 27 = .ok (.iaload, 1) := by decide +kernel
theorem dX8_why_28 : decode cX8_why 28 = .ok (.aload_n 0, 1) := by decide +kernel
theorem dX8_why_29 : decode cX8_why 29 = .ok (.getfield 7, 3) := by decide +kernel
theorem dX8_why_32 : decode cX8_why 32 = .ok (.bipush 10, 2) := by decide +kernel
theorem dX8_why_34 : decode cX8_why 34 = .ok (.iaload, 1) := by decide +kernel
theorem dX8_why_35 : decode cX8_why 35 = .ok (.iload_n 1, 1) := by decide +kernel
theorem dX8_why_36 : decode cX8_why 36 = .ok (.iload_n 2, 1) := by decide +kernel
theorem dX8_why_37 : decode cX8_why 37 = .ok (.invokevirtual 128, 3) := by decide +kernel
theorem dX8_why_40 : decode cX8_why 40 = .ok (.istore 6, 2) := by decide +kernel
theorem dX8_why_42 : decode cX8_why 42 = .ok (.iload 4, 2) := by decide +kernel
theorem dX8_why_44 : decode cX8_why 44 = .ok (.ifCond .ge 5, 3) := by decide +kernel
theorem dX8_why_47 : decode cX8_why 47 = .ok (.iconst 1, 1) := by decide +kernel
theorem dX8_why_48 : decode cX8_why 48 = .ok (.ireturn, 1) := by decide +kernel
theorem dX8_why_49 : decode cX8_why 49 = .ok (.aload_n 0, 1) := by decide +kernel
theorem dX8_why_50 : decode cX8_why 50 = .ok (.iload_n 1, 1) := by decide +kernel
theorem dX8_why_51 : decode cX8_why 51 = .ok (.invokevirtual 93, 3) := by decide +kernel
theorem dX8_why_54 : decode cX8_why 54 = .ok (.ifCond .eq 5, 3) := by decide +kernel
theorem dX8_why_57 : decode cX8_why 57 = .ok (.iconst 2, 1) := by decide +kernel
theorem dX8_why_58 : decode cX8_why 58 = .ok (.ireturn, 1) := by decide +kernel
theorem dX8_why_59 : decode cX8_why 59 = .ok (.aload_n 0, 1) := by decide +kernel
theorem dX8_why_60 : decode cX8_why 60 = .ok (.iload 4, 2) := by decide +kernel
theorem dX8_why_62 : decode cX8_why 62 = .ok (.invokevirtual 84, 3) := by decide +kernel
theorem dX8_why_65 : decode cX8_why 65 = .ok (.ifCond .eq 5, 3) := by decide +kernel
theorem dX8_why_68 : decode cX8_why 68 = .ok (.iconst 3, 1) := by decide +kernel
theorem dX8_why_69 : decode cX8_why 69 = .ok (.ireturn, 1) := by decide +kernel
theorem dX8_why_70 : decode cX8_why 70 = .ok (.aload_n 0, 1) := by decide +kernel
theorem dX8_why_71 : decode cX8_why 71 = .ok (.iload 4, 2) := by decide +kernel
theorem dX8_why_73 : decode cX8_why 73 = .ok (.iconst 2, 1) := by decide +kernel
theorem dX8_why_74 : decode cX8_why 74 = .ok (.invokevirtual 61, 3) := by decide +kernel
theorem dX8_why_77 : decode cX8_why 77 = .ok (.aload_n 0, 1) := by decide +kernel
theorem dX8_why_78 : decode cX8_why 78 = .ok (.iload_n 1, 1) := by decide +kernel
theorem dX8_why_79 : decode cX8_why 79 = .ok (.invokevirtual 132, 3) := by decide +kernel
theorem dX8_why_82 : decode cX8_why 82 = .ok (.if_icmp .ge 5, 3) := by decide +kernel
theorem dX8_why_85 : decode cX8_why 85 = .ok (.iconst 4, 1) := by decide +kernel
theorem dX8_why_86 : decode cX8_why 86 = .ok (.ireturn, 1) := by decide +kernel
theorem dX8_why_87 : decode cX8_why 87 = .ok (.aload_n 0, 1) := by decide +kernel
theorem dX8_why_88 : decode cX8_why 88 = .ok (.iload 4, 2) := by decide +kernel
theorem dX8_why_90 : decode cX8_why 90 = .ok (.iconst 4, 1) := by decide +kernel
theorem dX8_why_91 : decode cX8_why 91 = .ok (.invokevirtual 61, 3) := by decide +kernel
theorem dX8_why_94 : decode cX8_why 94 = .ok (.iload_n 3, 1) := by decide +kernel
theorem dX8_why_95 : decode cX8_why 95 = .ok (.iadd, 1) := by decide +kernel
theorem dX8_why_96 : decode cX8_why 96 = .ok (.iload 6, 2) := by decide +kernel
theorem dX8_why_98 : decode cX8_why 98 = .ok (.iadd, 1) := by decide +kernel
theorem dX8_why_99 : decode cX8_why 99 = .ok (.aload_n 0, 1) := by decide +kernel
theorem dX8_why_100 : decode cX8_why 100 = .ok (.getfield 7, 3) := by decide +kernel
theorem dX8_why_103 : decode cX8_why 103 = .ok (.iconst 3, 1) := by decide +kernel
theorem dX8_why_104 : decode cX8_why 104 = .ok (.iaload, 1) := by decide +kernel
theorem dX8_why_105 : decode cX8_why 105 = .ok (.if_icmp .le 5, 3) := by decide +kernel
theorem dX8_why_108 : decode cX8_why 108 = .ok (.iconst 5, 1) := by decide +kernel
theorem dX8_why_109 : decode cX8_why 109 = .ok (.ireturn, 1) := by decide +kernel
theorem dX8_why_110 : decode cX8_why 110 = .ok (.aload_n 0, 1) := by decide +kernel
theorem dX8_why_111 : decode cX8_why 111 = .ok (.iload_n 1, 1) := by decide +kernel
theorem dX8_why_112 : decode cX8_why 112 = .ok (.iload 5, 2) := by decide +kernel
theorem dX8_why_114 : decode cX8_why 114 = .ok (.iload 6, 2) := by decide +kernel
theorem dX8_why_116 : decode cX8_why 116 = .ok (.iadd, 1) := by decide +kernel
theorem dX8_why_117 : decode cX8_why 117 = .ok (.invokevirtual 135, 3) := by decide +kernel
theorem dX8_why_120 : decode cX8_why 120 = .ok (.ifCond .eq 6, 3) := by decide +kernel
theorem dX8_why_123 : decode cX8_why 123 = .ok (.bipush 6, 2) := by decide +kernel
theorem dX8_why_125 : decode cX8_why 125 = .ok (.ireturn, 1) := by decide +kernel
theorem dX8_why_126 : decode cX8_why 126 = .ok (.iload 5, 2) := by decide +kernel
theorem dX8_why_128 : decode cX8_why 128 = .ok (.iload 6, 2) := by decide +kernel
theorem dX8_why_130 : decode cX8_why 130 = .ok (.iadd, 1) := by decide +kernel
theorem dX8_why_131 : decode cX8_why 131 = .ok (.aload_n 0, 1) := by decide +kernel
theorem dX8_why_132 : decode cX8_why 132 = .ok (.iload_n 1, 1) := by decide +kernel
theorem dX8_why_133 : decode cX8_why 133 = .ok (.invokevirtual 99, 3) := by decide +kernel
theorem dX8_why_136 : decode cX8_why 136 = .ok (.iadd, 1) := by decide +kernel
theorem dX8_why_137 : decode cX8_why 137 = .ok (.ldc 107, 2) := by decide +kernel
theorem dX8_why_139 : decode cX8_why 139 = .ok (.if_icmp .le 8, 3) := by decide +kernel
theorem dX8_why_142 : decode cX8_why 142 = .ok (.bipush 7, 2) := by decide +kernel
theorem dX8_why_144 : decode cX8_why 144 = .ok (.goto 4, 3) := by decide +kernel
theorem dX8_why_147 : decode cX8_why 147 = .ok (.iconst 0, 1) := by decide +kernel
theorem dX8_why_148 : decode cX8_why 148 = .ok (.ireturn, 1) := by decide +kernel
theorem dX8_draws_0 : decode cX8_draws 0 = .ok (.aload_n 0, 1) := by decide +kernel
theorem dX8_draws_1 : decode cX8_draws 1 = .ok (.iload_n 1, 1) := by decide +kernel
theorem dX8_draws_2 : decode cX8_draws 2 = .ok (.invokevirtual 96, 3) := by decide +kernel
theorem dX8_draws_5 : decode cX8_draws 5 = .ok (.ifCond .eq 12, 3) := by decide +kernel
theorem dX8_draws_8 : decode cX8_draws 8 = .ok (.iload_n 2, 1) := by decide +kernel
theorem dX8_draws_9 : decode cX8_draws 9 = .ok (.iconst 0, 1) := by decide +kernel
theorem dX8_draws_10 : decode cX8_draws 10 = .ok (.iconst 1, 1) := by decide +kernel
theorem dX8_draws_11 : decode cX8_draws 11 = .ok (.invokestatic 41, 3) := by decide +kernel
theorem dX8_draws_14 : decode cX8_draws 14 = .ok (.ifCond .ne 6, 3) := by decide +kernel
theorem dX8_draws_17 : decode cX8_draws 17 = .ok (.ldc 49, 2) := by decide +kernel
theorem dX8_draws_19 : decode cX8_draws 19 = .ok (.ireturn, 1) := by decide +kernel
theorem dX8_draws_20 : decode cX8_draws 20 = .ok (.aload_n 0, 1) := by decide +kernel
theorem dX8_draws_21 : decode cX8_draws 21 = .ok (.iload_n 1, 1) := by decide +kernel
theorem dX8_draws_22 : decode cX8_draws 22 = .ok (.iload_n 2, 1) := by decide +kernel
theorem dX8_draws_23 : decode cX8_draws 23 = .ok (.iconst 0, 1) := by decide +kernel
theorem dX8_draws_24 : decode cX8_draws 24 = .ok (.invokevirtual 138, 3) := by decide +kernel
theorem dX8_draws_27 : decode cX8_draws 27 = .ok (.ifCond .eq 6, 3) := by decide +kernel
theorem dX8_draws_30 : decode cX8_draws 30 = .ok (.ldc 64, 2) := by decide +kernel
theorem dX8_draws_32 : decode cX8_draws 32 = .ok (.ireturn, 1) := by decide +kernel
theorem dX8_draws_33 : decode cX8_draws 33 = .ok (.aload_n 0, 1) := by decide +kernel
theorem dX8_draws_34 : decode cX8_draws 34 = .ok (.getfield 7, 3) := by decide +kernel
theorem dX8_draws_37 : decode cX8_draws 37 = .ok (.bipush 8, 2) := by decide +kernel
theorem dX8_draws_39 : decode cX8_draws 39 = .ok (.iaload, 1) := by decide +kernel
theorem dX8_draws_40 : decode cX8_draws 40 = .ok (.istore_n 3, 1) := by decide +kernel
theorem dX8_draws_41 : decode cX8_draws 41 = .ok (.aload_n 0, 1) := by decide +kernel
theorem dX8_draws_42 : decode cX8_draws 42 = .ok (.aload_n 0, 1) := by decide +kernel
theorem dX8_draws_43 : decode cX8_draws 43 = .ok (.getfield 7, 3) := by decide +kernel
theorem dX8_draws_46 : decode cX8_draws 46 = .ok (.bipush 9, 2) := by decide +kernel
theorem dX8_draws_48 : decode cX8_draws 48 = .ok (.iaload, 1) := by decide +kernel
theorem dX8_draws_49 : decode cX8_draws 49 = .ok (.aload_n 0, 1) := by decide +kernel
theorem dX8_draws_50 : decode cX8_draws 50 = .ok (.getfield 7, 3) := by decide +kernel
theorem dX8_draws_53 : decode cX8_draws 53 = .ok (.bipush 10, 2) := by decide +kernel
theorem dX8_draws_55 : decode cX8_draws 55 = .ok (.iaload, 1) := by decide +kernel
theorem dX8_draws_56 : decode cX8_draws 56 = .ok (.iload_n 1, 1) := by decide +kernel
theorem dX8_draws_57 : decode cX8_draws 57 = .ok (.iload_n 2, 1) := by decide +kernel
theorem dX8_draws_58 : decode cX8_draws 58 = .ok (.invokevirtual 128, 3) := by decide +kernel
theorem dX8_draws_61 : decode cX8_draws 61 = .ok (.istore 4, 2) := by decide +kernel
theorem dX8_draws_63 : decode cX8_draws 63 = .ok (.bipush 53, 2) := by decide +kernel
theorem dX8_draws_65 : decode cX8_draws 65 = .ok (.bipush 8, 2) := by decide +kernel
theorem dX8_draws_67 : decode cX8_draws 67 = .ok (.iload_n 1, 1) := by decide +kernel
theorem dX8_draws_68 : decode cX8_draws 68 = .ok (.imul, 1) := by decide +kernel
theorem dX8_draws_69 : decode cX8_draws 69 = .ok (.iadd, 1) := by decide +kernel
theorem dX8_draws_70 : decode cX8_draws 70 = .ok (.istore 5, 2) := by decide +kernel
theorem dX8_draws_72 : decode cX8_draws 72 = .ok (.aload_n 0, 1) := by decide +kernel
theorem dX8_draws_73 : decode cX8_draws 73 = .ok (.getfield 7, 3) := by decide +kernel
theorem dX8_draws_76 : decode cX8_draws 76 = .ok (.bipush 12, 2) := by decide +kernel
theorem dX8_draws_78 : decode cX8_draws 78 = .ok (.dup2, 1) := by decide +kernel
theorem dX8_draws_79 : decode cX8_draws 79 = .ok (.iaload, 1) := by decide +kernel
theorem dX8_draws_80 : decode cX8_draws 80 = .ok (.iload 4, 2) := by decide +kernel
theorem dX8_draws_82 : decode cX8_draws 82 = .ok (.iadd, 1) := by decide +kernel
theorem dX8_draws_83 : decode cX8_draws 83 = .ok (.iastore, 1) := by decide +kernel
theorem dX8_draws_84 : decode cX8_draws 84 = .ok (.aload_n 0, 1) := by decide +kernel
theorem dX8_draws_85 : decode cX8_draws 85 = .ok (.getfield 7, 3) := by decide +kernel
theorem dX8_draws_88 : decode cX8_draws 88 = .ok (.bipush 7, 2) := by decide +kernel
theorem dX8_draws_90 : decode cX8_draws 90 = .ok (.dup2, 1) := by decide +kernel
theorem dX8_draws_91 : decode cX8_draws 91 = .ok (.iaload, 1) := by decide +kernel
theorem dX8_draws_92 : decode cX8_draws 92 = .ok (.iload 4, 2) := by decide +kernel
theorem dX8_draws_94 : decode cX8_draws 94 = .ok (.aload_n 0, 1) := by decide +kernel
theorem dX8_draws_95 : decode cX8_draws 95 = .ok (.iload_n 1, 1) := by decide +kernel
theorem dX8_draws_96 : decode cX8_draws 96 = .ok (.invokevirtual 99, 3) := by decide +kernel
theorem dX8_draws_99 : decode cX8_draws 99 = .ok (.iadd, 1) := by decide +kernel
theorem dX8_draws_100 : decode cX8_draws 100 = .ok (.iadd, 1) := by decide +kernel
theorem dX8_draws_101 : decode cX8_draws 101 = .ok (.iastore, 1) := by decide +kernel
theorem dX8_draws_102 : decode cX8_draws 102 = .ok (.aload_n 0, 1) := by decide +kernel
theorem dX8_draws_103 : decode cX8_draws 103 = .ok (.getfield 7, 3) := by decide +kernel
theorem dX8_draws_106 : decode cX8_draws 106 = .ok (.bipush 9, 2) := by decide +kernel
theorem dX8_draws_108 : decode cX8_draws 108 = .ok (.aload_n 0, 1) := by decide +kernel
theorem dX8_draws_109 : decode cX8_draws 109 = .ok (.iload_n 1, 1) := by decide +kernel
theorem dX8_draws_110 : decode cX8_draws 110 = .ok (.iconst 2, 1) := by decide +kernel
theorem dX8_draws_111 : decode cX8_draws 111 = .ok (.iconst 2, 1) := by decide +kernel
theorem dX8_draws_112 : decode cX8_draws 112 = .ok (.iload_n 2, 1) := by decide +kernel
theorem dX8_draws_113 : decode cX8_draws 113 = .ok (.imul, 1) := by decide +kernel
theorem dX8_draws_114 : decode cX8_draws 114 = .ok (.isub, 1) := by decide +kernel
theorem dX8_draws_115 : decode cX8_draws 115 = .ok (.invokevirtual 45, 3) := by decide +kernel
theorem dX8_draws_118 : decode cX8_draws 118 = .ok (.iastore, 1) := by decide +kernel
theorem dX8_draws_119 : decode cX8_draws 119 = .ok (.aload_n 0, 1) := by decide +kernel
theorem dX8_draws_120 : decode cX8_draws 120 = .ok (.getfield 7, 3) := by decide +kernel
theorem dX8_draws_123 : decode cX8_draws 123 = .ok (.bipush 10, 2) := by decide +kernel
theorem dX8_draws_125 : decode cX8_draws 125 = .ok (.aload_n 0, 1) := by decide +kernel
theorem dX8_draws_126 : decode cX8_draws 126 = .ok (.iload_n 1, 1) := by decide +kernel
theorem dX8_draws_127 : decode cX8_draws 127 = .ok (.iconst 3, 1) := by decide +kernel
theorem dX8_draws_128 : decode cX8_draws 128 = .ok (.iconst 2, 1) := by decide +kernel
theorem dX8_draws_129 : decode cX8_draws 129 = .ok (.iload_n 2, 1) := by decide +kernel
theorem dX8_draws_130 : decode cX8_draws 130 = .ok (.imul, 1) := by decide +kernel
theorem dX8_draws_131 : decode cX8_draws 131 = .ok (.isub, 1) := by decide +kernel
theorem dX8_draws_132 : decode cX8_draws 132 = .ok (.invokevirtual 45, 3) := by decide +kernel
theorem dX8_draws_135 : decode cX8_draws 135 = .ok (.iastore, 1) := by decide +kernel
theorem dX8_draws_136 : decode cX8_draws 136 = .ok (.aload_n 0, 1) := by decide +kernel
theorem dX8_draws_137 : decode cX8_draws 137 = .ok (.getfield 7, 3) := by decide +kernel
theorem dX8_draws_140 : decode cX8_draws 140 = .ok (.iload 5, 2) := by decide +kernel
theorem dX8_draws_142 : decode cX8_draws 142 = .ok (.bipush 7, 2) := by decide +kernel
theorem dX8_draws_144 : decode cX8_draws 144 = .ok (.iadd, 1) := by decide +kernel
theorem dX8_draws_145 : decode cX8_draws 145 = .ok (.aload_n 0, 1) := by decide +kernel
theorem dX8_draws_146 : decode cX8_draws 146 = .ok (.iload_n 3, 1) := by decide +kernel
theorem dX8_draws_147 : decode cX8_draws 147 = .ok (.iconst 2, 1) := by decide +kernel
theorem dX8_draws_148 : decode cX8_draws 148 = .ok (.invokevirtual 61, 3) := by decide +kernel
theorem dX8_draws_151 : decode cX8_draws 151 = .ok (.i2f, 1) := by decide +kernel
theorem dX8_draws_152 : decode cX8_draws 152 = .ok (.aload_n 0, 1) := by decide +kernel
theorem dX8_draws_153 : decode cX8_draws 153 = .ok (.iload_n 3, 1) := by decide +kernel
theorem dX8_draws_154 : decode cX8_draws 154 = .ok (.iconst 1, 1) := by decide +kernel
theorem dX8_draws_155 : decode cX8_draws 155 = .ok (.invokevirtual 61, 3) := by decide +kernel
theorem dX8_draws_158 : decode cX8_draws 158 = .ok (.i2f, 1) := by decide +kernel
theorem dX8_draws_159 : decode cX8_draws 159 = .ok (.fdiv, 1) := by decide +kernel
theorem dX8_draws_160 : decode cX8_draws 160 = .ok (.invokestatic 142, 3) := by decide +kernel
theorem dX8_draws_163 : decode cX8_draws 163 = .ok (.iastore, 1) := by decide +kernel
theorem dX8_draws_164 : decode cX8_draws 164 = .ok (.aload_n 0, 1) := by decide +kernel
theorem dX8_draws_165 : decode cX8_draws 165 = .ok (.iload_n 3, 1) := by decide +kernel
theorem dX8_draws_166 : decode cX8_draws 166 = .ok (.iconst 2, 1) := by decide +kernel
theorem dX8_draws_167 : decode cX8_draws 167 = .ok (.aload_n 0, 1) := by decide +kernel
theorem dX8_draws_168 : decode cX8_draws 168 = .ok (.iload_n 3, 1) := by decide +kernel
theorem dX8_draws_169 : decode cX8_draws 169 = .ok (.iconst 2, 1) := by decide +kernel
theorem dX8_draws_170 : decode cX8_draws 170 = .ok (.invokevirtual 61, 3) := by decide +kernel
theorem dX8_draws_173 : decode cX8_draws 173 = .ok (.aload_n 0, 1) := by decide +kernel
theorem dX8_draws_174 : decode cX8_draws 174 = .ok (.iload_n 1, 1) := by decide +kernel
theorem dX8_draws_175 : decode cX8_draws 175 = .ok (.invokevirtual 132, 3) := by decide +kernel
theorem dX8_draws_178 : decode cX8_draws 178 = .ok (.isub, 1) := by decide +kernel
theorem dX8_draws_179 : decode cX8_draws 179 = .ok (.invokevirtual 66, 3) := by decide +kernel
theorem dX8_draws_182 : decode cX8_draws 182 = .ok (.aload_n 0, 1) := by decide +kernel
theorem dX8_draws_183 : decode cX8_draws 183 = .ok (.iload_n 3, 1) := by decide +kernel
theorem dX8_draws_184 : decode cX8_draws 184 = .ok (.iconst 3, 1) := by decide +kernel
theorem dX8_draws_185 : decode cX8_draws 185 = .ok (.aload_n 0, 1) := by decide +kernel
theorem dX8_draws_186 : decode cX8_draws 186 = .ok (.iload_n 3, 1) := by decide +kernel
theorem dX8_draws_187 : decode cX8_draws 187 = .ok (.iconst 3, 1) := by decide +kernel
theorem dX8_draws_188 : decode cX8_draws 188 = .ok (.invokevirtual 61, 3) := by decide +kernel
theorem dX8_draws_191 : decode cX8_draws 191 = .ok (.aload_n 0, 1) := by decide +kernel
theorem dX8_draws_192 : decode cX8_draws 192 = .ok (.iload_n 1, 1) := by decide +kernel
theorem dX8_draws_193 : decode cX8_draws 193 = .ok (.invokevirtual 99, 3) := by decide +kernel
theorem dX8_draws_196 : decode cX8_draws 196 = .ok (.iadd, 1) := by decide +kernel
theorem dX8_draws_197 : decode cX8_draws 197 = .ok (.invokevirtual 66, 3) := by decide +kernel
theorem dX8_draws_200 : decode cX8_draws 200 = .ok (.aload_n 0, 1) := by decide +kernel
theorem dX8_draws_201 : decode cX8_draws 201 = .ok (.iload_n 3, 1) := by decide +kernel
theorem dX8_draws_202 : decode cX8_draws 202 = .ok (.iconst 4, 1) := by decide +kernel
theorem dX8_draws_203 : decode cX8_draws 203 = .ok (.iconst 0, 1) := by decide +kernel
theorem dX8_draws_204 : decode cX8_draws 204 = .ok (.invokevirtual 66, 3) := by decide +kernel
theorem dX8_draws_207 : decode cX8_draws 207 = .ok (.aload_n 0, 1) := by decide +kernel
theorem dX8_draws_208 : decode cX8_draws 208 = .ok (.getfield 7, 3) := by decide +kernel
theorem dX8_draws_211 : decode cX8_draws 211 = .ok (.iload 5, 2) := by decide +kernel
theorem dX8_draws_213 : decode cX8_draws 213 = .ok (.iconst 4, 1) := by decide +kernel
theorem dX8_draws_214 : decode cX8_draws 214 = .ok (.iadd, 1) := by decide +kernel
theorem dX8_draws_215 : decode cX8_draws 215 = .ok (.iload_n 3, 1) := by decide +kernel
theorem dX8_draws_216 : decode cX8_draws 216 = .ok (.iastore, 1) := by decide +kernel
theorem dX8_draws_217 : decode cX8_draws 217 = .ok (.aload_n 0, 1) := by decide +kernel
theorem dX8_draws_218 : decode cX8_draws 218 = .ok (.getfield 7, 3) := by decide +kernel
theorem dX8_draws_221 : decode cX8_draws 221 = .ok (.iload 5, 2) := by decide +kernel
theorem dX8_draws_223 : decode cX8_draws 223 = .ok (.iconst 5, 1) := by decide +kernel
theorem dX8_draws_224 : decode cX8_draws 224 = .ok (.iadd, 1) := by decide +kernel
theorem dX8_draws_225 : decode cX8_draws 225 = .ok (.aload_n 0, 1) := by decide +kernel
theorem dX8_draws_226 : decode cX8_draws 226 = .ok (.getfield 7, 3) := by decide +kernel
theorem dX8_draws_229 : decode cX8_draws 229 = .ok (.bipush 7, 2) := by decide +kernel
theorem dX8_draws_231 : decode cX8_draws 231 = .ok (.iaload, 1) := by decide +kernel
theorem dX8_draws_232 : decode cX8_draws 232 = .ok (.iastore, 1) := by decide +kernel
theorem dX8_draws_233 : decode cX8_draws 233 = .ok (.aload_n 0, 1) := by decide +kernel
theorem dX8_draws_234 : decode cX8_draws 234 = .ok (.getfield 7, 3) := by decide +kernel
theorem dX8_draws_237 : decode cX8_draws 237 = .ok (.iload 5, 2) := by decide +kernel
theorem dX8_draws_239 : decode cX8_draws 239 = .ok (.bipush 6, 2) := by decide +kernel
theorem dX8_draws_241 : decode cX8_draws 241 = .ok (.iadd, 1) := by decide +kernel
theorem dX8_draws_242 : decode cX8_draws 242 = .ok (.aload_n 0, 1) := by decide +kernel
theorem dX8_draws_243 : decode cX8_draws 243 = .ok (.getfield 7, 3) := by decide +kernel
theorem dX8_draws_246 : decode cX8_draws 246 = .ok (.bipush 7, 2) := by decide +kernel
theorem dX8_draws_248 : decode cX8_draws 248 = .ok (.iaload, 1) := by decide +kernel
theorem dX8_draws_249 : decode cX8_draws 249 = .ok (.aload_n 0, 1) := by decide +kernel
theorem dX8_draws_250 : decode cX8_draws 250 = .ok (.getfield 7, 3) := by decide +kernel
theorem dX8_draws_253 : decode cX8_draws 253 = .ok (.iconst 4, 1) := by decide +kernel
theorem dX8_draws_254 : decode cX8_draws 254 = .ok (.iaload, 1) := by decide +kernel
theorem dX8_draws_255 : decode cX8_draws 255 = .ok (.iadd, 1) := by decide +kernel
theorem dX8_draws_256 : decode cX8_draws 256 = .ok (.iastore, 1) := by decide +kernel
theorem dX8_draws_257 : decode cX8_draws 257 = .ok (.aload_n 0, 1) := by decide +kernel
theorem dX8_draws_258 : decode cX8_draws 258 = .ok (.getfield 7, 3) := by decide +kernel
theorem dX8_draws_261 : decode cX8_draws 261 = .ok (.bipush 7, 2) := by decide +kernel
theorem dX8_draws_263 : decode cX8_draws 263 = .ok (.iaload, 1) := by decide +kernel
theorem dX8_draws_264 : decode cX8_draws 264 = .ok (.ireturn, 1) := by decide +kernel
theorem dX8_draw_0 : decode cX8_draw 0 = .ok (.aload_n 0, 1) := by decide +kernel
theorem dX8_draw_1 : decode cX8_draw 1 = .ok (.invokevirtual 54, 3) := by decide +kernel
theorem dX8_draw_4 : decode cX8_draw 4 = .ok (.aload_n 0, 1) := by decide +kernel
theorem dX8_draw_5 : decode cX8_draw 5 = .ok (.aload_n 0, 1) := by decide +kernel
theorem dX8_draw_6 : decode cX8_draw 6 = .ok (.iload_n 1, 1) := by decide +kernel
theorem dX8_draw_7 : decode cX8_draw 7 = .ok (.iload_n 2, 1) := by decide +kernel
theorem dX8_draw_8 : decode cX8_draw 8 = .ok (.invokevirtual 148, 3) := by decide +kernel
theorem dX8_draw_11 : decode cX8_draw 11 = .ok (.invokevirtual 57, 3) := by decide +kernel
theorem dX8_draw_14 : decode cX8_draw 14 = .ok (.ireturn, 1) := by decide +kernel
theorem dX8_erase_0 : decode cX8_erase 0 = .ok (.aload_n 0, 1) := by decide +kernel
theorem dX8_erase_1 : decode cX8_erase 1 = .ok (.iload_n 1, 1) := by decide +kernel
theorem dX8_erase_2 : decode cX8_erase 2 = .ok (.invokevirtual 96, 3) := by decide +kernel
theorem dX8_erase_5 : decode cX8_erase 5 = .ok (.ifCond .ne 6, 3) := by decide +kernel
theorem dX8_erase_8 : decode cX8_erase 8 = .ok (.ldc 49, 2) := by decide +kernel
theorem dX8_erase_10 : decode cX8_erase 10 = .ok (.ireturn, 1) := by decide +kernel
theorem dX8_erase_11 : decode cX8_erase 11 = .ok (.aload_n 0, 1) := by decide +kernel
theorem dX8_erase_12 : decode cX8_erase 12 = .ok (.iload_n 1, 1) := by decide +kernel
theorem dX8_erase_13 : decode cX8_erase 13 = .ok (.invokevirtual 93, 3) := by decide +kernel
theorem dX8_erase_16 : decode cX8_erase 16 = .ok (.ifCond .ne 6, 3) := by decide +kernel
theorem dX8_erase_19 : decode cX8_erase 19 = .ok (.ldc 64, 2) := by decide +kernel
theorem dX8_erase_21 : decode cX8_erase 21 = .ok (.ireturn, 1) := by decide +kernel
theorem dX8_erase_22 : decode cX8_erase 22 = .ok (.aload_n 0, 1) := by decide +kernel
theorem dX8_erase_23 : decode cX8_erase 23 = .ok (.invokevirtual 54, 3) := by decide +kernel
theorem dX8_erase_26 : decode cX8_erase 26 = .ok (.aload_n 0, 1) := by decide +kernel
theorem dX8_erase_27 : decode cX8_erase 27 = .ok (.iload_n 1, 1) := by decide +kernel
theorem dX8_erase_28 : decode cX8_erase 28 = .ok (.iconst 4, 1) := by decide +kernel
theorem dX8_erase_29 : decode cX8_erase 29 = .ok (.invokevirtual 45, 3) := by decide +kernel
theorem dX8_erase_32 : decode cX8_erase 32 = .ok (.istore_n 2, 1) := by decide +kernel
theorem dX8_erase_33 : decode cX8_erase 33 = .ok (.aload_n 0, 1) := by decide +kernel
theorem dX8_erase_34 : decode cX8_erase 34 = .ok (.getfield 7, 3) := by decide +kernel
theorem dX8_erase_37 : decode cX8_erase 37 = .ok (.bipush 53, 2) := by decide +kernel
theorem dX8_erase_39 : decode cX8_erase 39 = .ok (.bipush 8, 2) := by decide +kernel
theorem dX8_erase_41 : decode cX8_erase 41 = .ok (.iload_n 1, 1) := by decide +kernel
theorem dX8_erase_42 : decode cX8_erase 42 = .ok (.imul, 1) := by decide +kernel
theorem dX8_erase_43 : decode cX8_erase 43 = .ok (.iadd, 1) := by decide +kernel
theorem dX8_erase_44 : decode cX8_erase 44 = .ok (.iconst 4, 1) := by decide +kernel
theorem dX8_erase_45 : decode cX8_erase 45 = .ok (.iadd, 1) := by decide +kernel
theorem dX8_erase_46 : decode cX8_erase 46 = .ok (.iconst (-1), 1) := by decide +kernel
theorem dX8_erase_47 : decode cX8_erase 47 = .ok (.iastore, 1) := by decide +kernel
theorem dX8_erase_48 : decode cX8_erase 48 = .ok (.aload_n 0, 1) := by decide +kernel
theorem dX8_erase_49 : decode cX8_erase 49 = .ok (.iload_n 2, 1) := by decide +kernel
theorem dX8_erase_50 : decode cX8_erase 50 = .ok (.invokevirtual 57, 3) := by decide +kernel
theorem dX8_erase_53 : decode cX8_erase 53 = .ok (.ireturn, 1) := by decide +kernel
theorem dX8_waited_0 : decode cX8_waited 0 = .ok (.iload_n 1, 1) := by decide +kernel
theorem dX8_waited_1 : decode cX8_waited 1 = .ok (.iconst 1, 1) := by decide +kernel
theorem dX8_waited_2 : decode cX8_waited 2 = .ok (.sipush 200, 3) := by decide +kernel
theorem dX8_waited_5 : decode cX8_waited 5 = .ok (.invokestatic 41, 3) := by decide +kernel
theorem dX8_waited_8 : decode cX8_waited 8 = .ok (.ifCond .ne 6, 3) := by decide +kernel
theorem dX8_waited_11 : decode cX8_waited 11 = .ok (.ldc 49, 2) := by decide +kernel
theorem dX8_waited_13 : decode cX8_waited 13 = .ok (.ireturn, 1) := by decide +kernel
theorem dX8_waited_14 : decode cX8_waited 14 = .ok (.aload_n 0, 1) := by decide +kernel
theorem dX8_waited_15 : decode cX8_waited 15 = .ok (.getfield 7, 3) := by decide +kernel
theorem dX8_waited_18 : decode cX8_waited 18 = .ok (.bipush 7, 2) := by decide +kernel
theorem dX8_waited_20 : decode cX8_waited 20 = .ok (.iaload, 1) := by decide +kernel
theorem dX8_waited_21 : decode cX8_waited 21 = .ok (.iload_n 1, 1) := by decide +kernel
theorem dX8_waited_22 : decode cX8_waited 22 = .ok (.iadd, 1) := by decide +kernel
theorem dX8_waited_23 : decode cX8_waited 23 = .ok (.ldc 107, 2) := by decide +kernel
theorem dX8_waited_25 : decode cX8_waited 25 = .ok (.if_icmp .le 6, 3) := by decide +kernel
theorem dX8_waited_28 : decode cX8_waited 28 = .ok (.ldc 65, 2) := by decide +kernel
theorem dX8_waited_30 : decode cX8_waited 30 = .ok (.ireturn, 1) := by decide +kernel
theorem dX8_waited_31 : decode cX8_waited 31 = .ok (.aload_n 0, 1) := by decide +kernel
theorem dX8_waited_32 : decode cX8_waited 32 = .ok (.iload_n 1, 1) := by decide +kernel
theorem dX8_waited_33 : decode cX8_waited 33 = .ok (.invokevirtual 108, 3) := by decide +kernel
theorem dX8_waited_36 : decode cX8_waited 36 = .ok (.aload_n 0, 1) := by decide +kernel
theorem dX8_waited_37 : decode cX8_waited 37 = .ok (.getfield 7, 3) := by decide +kernel
theorem dX8_waited_40 : decode cX8_waited 40 = .ok (.bipush 7, 2) := by decide +kernel
theorem dX8_waited_42 : decode cX8_waited 42 = .ok (.iaload, 1) := by decide +kernel
theorem dX8_waited_43 : decode cX8_waited 43 = .ok (.ireturn, 1) := by decide +kernel
theorem dX8_waits_0 : decode cX8_waits 0 = .ok (.aload_n 0, 1) := by decide +kernel
theorem dX8_waits_1 : decode cX8_waits 1 = .ok (.invokevirtual 54, 3) := by decide +kernel
theorem dX8_waits_4 : decode cX8_waits 4 = .ok (.aload_n 0, 1) := by decide +kernel
theorem dX8_waits_5 : decode cX8_waits 5 = .ok (.aload_n 0, 1) := by decide +kernel
theorem dX8_waits_6 : decode cX8_waits 6 = .ok (.iload_n 1, 1) := by decide +kernel
theorem dX8_waits_7 : decode cX8_waits 7 = .ok (.invokevirtual 151, 3) := by decide +kernel
theorem dX8_waits_10 : decode cX8_waits 10 = .ok (.invokevirtual 57, 3) := by decide +kernel
theorem dX8_waits_13 : decode cX8_waits 13 = .ok (.ireturn, 1) := by decide +kernel
theorem dX8_cleans_0 : decode cX8_cleans 0 = .ok (.aload_n 0, 1) := by decide +kernel
theorem dX8_cleans_1 : decode cX8_cleans 1 = .ok (.getfield 7, 3) := by decide +kernel
theorem dX8_cleans_4 : decode cX8_cleans 4 = .ok (.bipush 8, 2) := by decide +kernel
theorem dX8_cleans_6 : decode cX8_cleans 6 = .ok (.iaload, 1) := by decide +kernel
theorem dX8_cleans_7 : decode cX8_cleans 7 = .ok (.ifCond .ge 6, 3) := by decide +kernel
theorem dX8_cleans_10 : decode cX8_cleans 10 = .ok (.ldc 64, 2) := by decide +kernel
theorem dX8_cleans_12 : decode cX8_cleans 12 = .ok (.ireturn, 1) := by decide +kernel
theorem dX8_cleans_13 : decode cX8_cleans 13 = .ok (.aload_n 0, 1) := by decide +kernel
theorem dX8_cleans_14 : decode cX8_cleans 14 = .ok (.getfield 7, 3) := by decide +kernel
theorem dX8_cleans_17 : decode cX8_cleans 17 = .ok (.bipush 7, 2) := by decide +kernel
theorem dX8_cleans_19 : decode cX8_cleans 19 = .ok (.iaload, 1) := by decide +kernel
theorem dX8_cleans_20 : decode cX8_cleans 20 = .ok (.aload_n 0, 1) := by decide +kernel
theorem dX8_cleans_21 : decode cX8_cleans 21 = .ok (.getfield 7, 3) := by decide +kernel
theorem dX8_cleans_24 : decode cX8_cleans 24 = .ok (.bipush 6, 2) := by decide +kernel
theorem dX8_cleans_26 : decode cX8_cleans 26 = .ok (.iaload, 1) := by decide +kernel
theorem dX8_cleans_27 : decode cX8_cleans 27 = .ok (.iadd, 1) := by decide +kernel
theorem dX8_cleans_28 : decode cX8_cleans 28 = .ok (.ldc 107, 2) := by decide +kernel
theorem dX8_cleans_30 : decode cX8_cleans 30 = .ok (.if_icmp .le 6, 3) := by decide +kernel
theorem dX8_cleans_33 : decode cX8_cleans 33 = .ok (.ldc 65, 2) := by decide +kernel
theorem dX8_cleans_35 : decode cX8_cleans 35 = .ok (.ireturn, 1) := by decide +kernel
theorem dX8_cleans_36 : decode cX8_cleans 36 = .ok (.aload_n 0, 1) := by decide +kernel
theorem dX8_cleans_37 : decode cX8_cleans 37 = .ok (.aload_n 0, 1) := by decide +kernel
theorem dX8_cleans_38 : decode cX8_cleans 38 = .ok (.getfield 7, 3) := by decide +kernel
theorem dX8_cleans_41 : decode cX8_cleans 41 = .ok (.bipush 8, 2) := by decide +kernel
theorem dX8_cleans_43 : decode cX8_cleans 43 = .ok (.iaload, 1) := by decide +kernel
theorem dX8_cleans_44 : decode cX8_cleans 44 = .ok (.iconst 4, 1) := by decide +kernel
theorem dX8_cleans_45 : decode cX8_cleans 45 = .ok (.invokevirtual 61, 3) := by decide +kernel
theorem dX8_cleans_48 : decode cX8_cleans 48 = .ok (.istore_n 1, 1) := by decide +kernel
theorem dX8_cleans_49 : decode cX8_cleans 49 = .ok (.aload_n 0, 1) := by decide +kernel
theorem dX8_cleans_50 : decode cX8_cleans 50 = .ok (.aload_n 0, 1) := by decide +kernel
theorem dX8_cleans_51 : decode cX8_cleans 51 = .ok (.getfield 7, 3) := by decide +kernel
theorem dX8_cleans_54 : decode cX8_cleans 54 = .ok (.bipush 6, 2) := by decide +kernel
theorem dX8_cleans_56 : decode cX8_cleans 56 = .ok (.iaload, 1) := by decide +kernel
theorem dX8_cleans_57 : decode cX8_cleans 57 = .ok (.invokevirtual 108, 3) := by decide +kernel
theorem dX8_cleans_60 : decode cX8_cleans 60 = .ok (.aload_n 0, 1) := by decide +kernel
theorem dX8_cleans_61 : decode cX8_cleans 61 = .ok (.aload_n 0, 1) := by decide +kernel
theorem dX8_cleans_62 : decode cX8_cleans 62 = .ok (.getfield 7, 3) := by decide +kernel
theorem dX8_cleans_65 : decode cX8_cleans 65 = .ok (.bipush 8, 2) := by decide +kernel
theorem dX8_cleans_67 : decode cX8_cleans 67 = .ok (.iaload, 1) := by decide +kernel
theorem dX8_cleans_68 : decode cX8_cleans 68 = .ok (.iconst 4, 1) := by decide +kernel
theorem dX8_cleans_69 : decode cX8_cleans 69 = .ok (.iconst 0, 1) := by decide +kernel
theorem dX8_cleans_70 : decode cX8_cleans 70 = .ok (.invokevirtual 66, 3) := by decide +kernel
theorem dX8_cleans_73 : decode cX8_cleans 73 = .ok (.iload_n 1, 1) := by decide +kernel
theorem dX8_cleans_74 : decode cX8_cleans 74 = .ok (.ireturn, 1) := by decide +kernel
theorem dX8_clean_0 : decode cX8_clean 0 = .ok (.aload_n 0, 1) := by decide +kernel
theorem dX8_clean_1 : decode cX8_clean 1 = .ok (.invokevirtual 54, 3) := by decide +kernel
theorem dX8_clean_4 : decode cX8_clean 4 = .ok (.aload_n 0, 1) := by decide +kernel
theorem dX8_clean_5 : decode cX8_clean 5 = .ok (.aload_n 0, 1) := by decide +kernel
theorem dX8_clean_6 : decode cX8_clean 6 = .ok (.invokevirtual 154, 3) := by decide +kernel
theorem dX8_clean_9 : decode cX8_clean 9 = .ok (.invokevirtual 57, 3) := by decide +kernel
theorem dX8_clean_12 : decode cX8_clean 12 = .ok (.ireturn, 1) := by decide +kernel
theorem dX8_whyNot_0 : decode cX8_whyNot 0 = .ok (.aload_n 0, 1) := by decide +kernel
theorem dX8_whyNot_1 : decode cX8_whyNot 1 = .ok (.iload_n 1, 1) := by decide +kernel
theorem dX8_whyNot_2 : decode cX8_whyNot 2 = .ok (.invokevirtual 96, 3) := by decide +kernel
theorem dX8_whyNot_5 : decode cX8_whyNot 5 = .ok (.ifCond .eq 22, 3) := by decide +kernel
theorem dX8_whyNot_8 : decode cX8_whyNot 8 = .ok (.iload_n 2, 1) := by decide +kernel
theorem dX8_whyNot_9 : decode cX8_whyNot 9 = .ok (.iconst 0, 1) := by decide +kernel
theorem dX8_whyNot_10 : decode cX8_whyNot 10 = .ok (.iconst 1, 1) := by decide +kernel
theorem dX8_whyNot_11 : decode cX8_whyNot 11 = .ok (.invokestatic 41, 3) := by decide +kernel
theorem dX8_whyNot_14 : decode cX8_whyNot 14 = .ok (.ifCond .eq 13, 3) := by decide +kernel
theorem dX8_whyNot_17 : decode cX8_whyNot 17 = .ok (.aload_n 0, 1) := by decide +kernel
theorem dX8_whyNot_18 : decode cX8_whyNot 18 = .ok (.iload_n 1, 1) := by decide +kernel
theorem dX8_whyNot_19 : decode cX8_whyNot 19 = .ok (.iload_n 2, 1) := by decide +kernel
theorem dX8_whyNot_20 : decode cX8_whyNot 20 = .ok (.iconst 0, 1) := by decide +kernel
theorem dX8_whyNot_21 : decode cX8_whyNot 21 = .ok (.invokevirtual 138, 3) := by decide +kernel
theorem dX8_whyNot_24 : decode cX8_whyNot 24 = .ok (.goto 5, 3) := by decide +kernel
theorem dX8_whyNot_27 : decode cX8_whyNot 27 = .ok (.ldc 49, 2) := by decide +kernel
theorem dX8_whyNot_29 : decode cX8_whyNot 29 = .ok (.ireturn, 1) := by decide +kernel
theorem dX8_waitFor_0 : decode cX8_waitFor 0 = .ok (.aload_n 0, 1) := by decide +kernel
theorem dX8_waitFor_1 : decode cX8_waitFor 1 = .ok (.iload_n 1, 1) := by decide +kernel
theorem dX8_waitFor_2 : decode cX8_waitFor 2 = .ok (.invokevirtual 96, 3) := by decide +kernel
theorem dX8_waitFor_5 : decode cX8_waitFor 5 = .ok (.ifCond .eq 12, 3) := by decide +kernel
theorem dX8_waitFor_8 : decode cX8_waitFor 8 = .ok (.iload_n 2, 1) := by decide +kernel
theorem dX8_waitFor_9 : decode cX8_waitFor 9 = .ok (.iconst 0, 1) := by decide +kernel
theorem dX8_waitFor_10 : decode cX8_waitFor 10 = .ok (.iconst 1, 1) := by decide +kernel
theorem dX8_waitFor_11 : decode cX8_waitFor 11 = .ok (.invokestatic 41, 3) := by decide +kernel
theorem dX8_waitFor_14 : decode cX8_waitFor 14 = .ok (.ifCond .ne 6, 3) := by decide +kernel
theorem dX8_waitFor_17 : decode cX8_waitFor 17 = .ok (.ldc 49, 2) := by decide +kernel
theorem dX8_waitFor_19 : decode cX8_waitFor 19 = .ok (.ireturn, 1) := by decide +kernel
theorem dX8_waitFor_20 : decode cX8_waitFor 20 = .ok (.iconst 0, 1) := by decide +kernel
theorem dX8_waitFor_21 : decode cX8_waitFor 21 = .ok (.istore_n 3, 1) := by decide +kernel
theorem dX8_waitFor_22 : decode cX8_waitFor 22 = .ok (.iload_n 3, 1) := by decide +kernel
theorem dX8_waitFor_23 : decode cX8_waitFor 23 = .ok (.sipush 200, 3) := by decide +kernel
theorem dX8_waitFor_26 : decode cX8_waitFor 26 = .ok (.if_icmp .gt 21, 3) := by decide +kernel
theorem dX8_waitFor_29 : decode cX8_waitFor 29 = .ok (.aload_n 0, 1) := by decide +kernel
theorem dX8_waitFor_30 : decode cX8_waitFor 30 = .ok (.iload_n 1, 1) := by decide +kernel
theorem dX8_waitFor_31 : decode cX8_waitFor 31 = .ok (.iload_n 2, 1) := by decide +kernel
theorem dX8_waitFor_32 : decode cX8_waitFor 32 = .ok (.iload_n 3, 1) := by decide +kernel
theorem dX8_waitFor_33 : decode cX8_waitFor 33 = .ok (.invokevirtual 138, 3) := by decide +kernel
theorem dX8_waitFor_36 : decode cX8_waitFor 36 = .ok (.ifCond .ne 5, 3) := by decide +kernel
theorem dX8_waitFor_39 : decode cX8_waitFor 39 = .ok (.iload_n 3, 1) := by decide +kernel
theorem dX8_waitFor_40 : decode cX8_waitFor 40 = .ok (.ireturn, 1) := by decide +kernel
theorem dX8_waitFor_41 : decode cX8_waitFor 41 = .ok (.iinc 3 1, 3) := by decide +kernel
theorem dX8_waitFor_44 : decode cX8_waitFor 44 = .ok (.goto (-22), 3) := by decide +kernel
theorem dX8_waitFor_47 : decode cX8_waitFor 47 = .ok (.ldc 102, 2) := by decide +kernel
theorem dX8_waitFor_49 : decode cX8_waitFor 49 = .ok (.ireturn, 1) := by decide +kernel
theorem dX8_strikers_0 : decode cX8_strikers 0 = .ok (.iconst 0, 1) := by decide +kernel
theorem dX8_strikers_1 : decode cX8_strikers 1 = .ok (.istore_n 1, 1) := by decide +kernel
theorem dX8_strikers_2 : decode cX8_strikers 2 = .ok (.iconst 0, 1) := by decide +kernel
theorem dX8_strikers_3 : decode cX8_strikers 3 = .ok (.istore_n 2, 1) := by decide +kernel
theorem dX8_strikers_4 : decode cX8_strikers 4 = .ok (.iload_n 2, 1) := by decide +kernel
theorem dX8_strikers_5 : decode cX8_strikers 5 = .ok (.aload_n 0, 1) := by decide +kernel
theorem dX8_strikers_6 : decode cX8_strikers 6 = .ok (.getfield 7, 3) := by decide +kernel
theorem dX8_strikers_9 : decode cX8_strikers 9 = .ok (.iconst 0, 1) := by decide +kernel
theorem dX8_strikers_10 : decode cX8_strikers 10 = .ok (.iaload, 1) := by decide +kernel
theorem dX8_strikers_11 : decode cX8_strikers 11 = .ok (.if_icmp .ge 27, 3) := by decide +kernel
theorem dX8_strikers_14 : decode cX8_strikers 14 = .ok (.iload_n 1, 1) := by decide +kernel
theorem dX8_strikers_15 : decode cX8_strikers 15 = .ok (.aload_n 0, 1) := by decide +kernel
theorem dX8_strikers_16 : decode cX8_strikers 16 = .ok (.iload_n 2, 1) := by decide +kernel
theorem dX8_strikers_17 : decode cX8_strikers 17 = .ok (.invokevirtual 84, 3) := by decide +kernel
theorem dX8_strikers_20 : decode cX8_strikers 20 = .ok (.ifCond .eq 9, 3) := by decide +kernel
theorem dX8_strikers_23 : decode cX8_strikers 23 = .ok (.iconst 1, 1) := by decide +kernel
theorem dX8_strikers_24 : decode cX8_strikers 24 = .ok (.iload_n 2, 1) := by decide +kernel
theorem dX8_strikers_25 : decode cX8_strikers 25 = .ok (.ishl, 1) := by decide +kernel
theorem dX8_strikers_26 : decode cX8_strikers 26 = .ok (.goto 4, 3) := by decide +kernel
theorem dX8_strikers_29 : decode cX8_strikers 29 = .ok (.iconst 0, 1) := by decide +kernel
theorem dX8_strikers_30 : decode cX8_strikers 30 = .ok (.ior, 1) := by decide +kernel
theorem dX8_strikers_31 : decode cX8_strikers 31 = .ok (.istore_n 1, 1) := by decide +kernel
theorem dX8_strikers_32 : decode cX8_strikers 32 = .ok (.iinc 2 1, 3) := by decide +kernel
theorem dX8_strikers_35 : decode cX8_strikers 35 = .ok (.goto (-31), 3) := by decide +kernel
theorem dX8_strikers_38 : decode cX8_strikers 38 = .ok (.iload_n 1, 1) := by decide +kernel
theorem dX8_strikers_39 : decode cX8_strikers 39 = .ok (.ireturn, 1) := by decide +kernel
theorem dX8_room_0 : decode cX8_room 0 = .ok (.aload_n 0, 1) := by decide +kernel
theorem dX8_room_1 : decode cX8_room 1 = .ok (.iload_n 1, 1) := by decide +kernel
theorem dX8_room_2 : decode cX8_room 2 = .ok (.invokevirtual 74, 3) := by decide +kernel
theorem dX8_room_5 : decode cX8_room 5 = .ok (.ifCond .ne 6, 3) := by decide +kernel
theorem dX8_room_8 : decode cX8_room 8 = .ok (.ldc 49, 2) := by decide +kernel
theorem dX8_room_10 : decode cX8_room 10 = .ok (.ireturn, 1) := by decide +kernel
theorem dX8_room_11 : decode cX8_room 11 = .ok (.aload_n 0, 1) := by decide +kernel
theorem dX8_room_12 : decode cX8_room 12 = .ok (.iload_n 1, 1) := by decide +kernel
theorem dX8_room_13 : decode cX8_room 13 = .ok (.bipush 6, 2) := by decide +kernel
theorem dX8_room_15 : decode cX8_room 15 = .ok (.invokevirtual 61, 3) := by decide +kernel
theorem dX8_room_18 : decode cX8_room 18 = .ok (.iconst 1, 1) := by decide +kernel
theorem dX8_room_19 : decode cX8_room 19 = .ok (.if_icmp .ne 6, 3) := by decide +kernel
theorem dX8_room_22 : decode cX8_room 22 = .ok (.ldc 64, 2) := by decide +kernel
theorem dX8_room_24 : decode cX8_room 24 = .ok (.ireturn, 1) := by decide +kernel
theorem dX8_room_25 : decode cX8_room 25 = .ok (.aload_n 0, 1) := by decide +kernel
theorem dX8_room_26 : decode cX8_room 26 = .ok (.iload_n 1, 1) := by decide +kernel
theorem dX8_room_27 : decode cX8_room 27 = .ok (.invokevirtual 81, 3) := by decide +kernel
theorem dX8_room_30 : decode cX8_room 30 = .ok (.istore_n 2, 1) := by decide +kernel
theorem dX8_room_31 : decode cX8_room 31 = .ok (.iload_n 2, 1) := by decide +kernel
theorem dX8_room_32 : decode cX8_room 32 = .ok (.ifCond .ge 8, 3) := by decide +kernel
theorem dX8_room_35 : decode cX8_room 35 = .ok (.ldc 102, 2) := by decide +kernel
theorem dX8_room_37 : decode cX8_room 37 = .ok (.goto 18, 3) := by decide +kernel
theorem dX8_room_40 : decode cX8_room 40 = .ok (.iload_n 2, 1) := by decide +kernel
theorem dX8_room_41 : decode cX8_room 41 = .ok (.aload_n 0, 1) := by decide +kernel
theorem dX8_room_42 : decode cX8_room 42 = .ok (.getfield 7, 3) := by decide +kernel
theorem dX8_room_45 : decode cX8_room 45 = .ok (.iconst 2, 1) := by decide +kernel
theorem dX8_room_46 : decode cX8_room 46 = .ok (.iaload, 1) := by decide +kernel
theorem dX8_room_47 : decode cX8_room 47 = .ok (.iadd, 1) := by decide +kernel
theorem dX8_room_48 : decode cX8_room 48 = .ok (.aload_n 0, 1) := by decide +kernel
theorem dX8_room_49 : decode cX8_room 49 = .ok (.iload_n 1, 1) := by decide +kernel
theorem dX8_room_50 : decode cX8_room 50 = .ok (.iconst 3, 1) := by decide +kernel
theorem dX8_room_51 : decode cX8_room 51 = .ok (.invokevirtual 61, 3) := by decide +kernel
theorem dX8_room_54 : decode cX8_room 54 = .ok (.isub, 1) := by decide +kernel
theorem dX8_room_55 : decode cX8_room 55 = .ok (.ireturn, 1) := by decide +kernel
theorem dX8_spread_0 : decode cX8_spread 0 = .ok (.iconst (-1), 1) := by decide +kernel
theorem dX8_spread_1 : decode cX8_spread 1 = .ok (.istore_n 1, 1) := by decide +kernel
theorem dX8_spread_2 : decode cX8_spread 2 = .ok (.iconst 0, 1) := by decide +kernel
theorem dX8_spread_3 : decode cX8_spread 3 = .ok (.istore_n 2, 1) := by decide +kernel
theorem dX8_spread_4 : decode cX8_spread 4 = .ok (.iload_n 2, 1) := by decide +kernel
theorem dX8_spread_5 : decode cX8_spread 5 = .ok (.aload_n 0, 1) := by decide +kernel
theorem dX8_spread_6 : decode cX8_spread 6 = .ok (.getfield 7, 3) := by decide +kernel
theorem dX8_spread_9 : decode cX8_spread 9 = .ok (.iconst 0, 1) := by decide +kernel
theorem dX8_spread_10 : decode cX8_spread 10 = .ok (.iaload, 1) := by decide +kernel
theorem dX8_spread_11 : decode cX8_spread 11 = .ok (.if_icmp .ge 40, 3) := by decide +kernel
theorem dX8_spread_14 : decode cX8_spread 14 = .ok (.aload_n 0, 1) := by decide +kernel
theorem dX8_spread_15 : decode cX8_spread 15 = .ok (.iload_n 2, 1) := by decide +kernel
theorem dX8_spread_16 : decode cX8_spread 16 = .ok (.bipush 6, 2) := by decide +kernel
theorem dX8_spread_18 : decode cX8_spread 18 = .ok (.invokevirtual 61, 3) := by decide +kernel
theorem dX8_spread_21 : decode cX8_spread 21 = .ok (.ifCond .ne 22, 3) := by decide +kernel
theorem dX8_spread_24 : decode cX8_spread 24 = .ok (.aload_n 0, 1) := by decide +kernel
theorem dX8_spread_25 : decode cX8_spread 25 = .ok (.iload_n 2, 1) := by decide +kernel
theorem dX8_spread_26 : decode cX8_spread 26 = .ok (.iconst 3, 1) := by decide +kernel
theorem dX8_spread_27 : decode cX8_spread 27 = .ok (.invokevirtual 61, 3) := by decide +kernel
theorem dX8_spread_30 : decode cX8_spread 30 = .ok (.iload_n 1, 1) := by decide +kernel
theorem dX8_spread_31 : decode cX8_spread 31 = .ok (.if_icmp .le 12, 3) := by decide +kernel
theorem dX8_spread_34 : decode cX8_spread 34 = .ok (.aload_n 0, 1) := by decide +kernel
theorem dX8_spread_35 : decode cX8_spread 35 = .ok (.iload_n 2, 1) := by decide +kernel
theorem dX8_spread_36 : decode cX8_spread 36 = .ok (.iconst 3, 1) := by decide +kernel
theorem dX8_spread_37 : decode cX8_spread 37 = .ok (.invokevirtual 61, 3) := by decide +kernel
theorem dX8_spread_40 : decode cX8_spread 40 = .ok (.goto 4, 3) := by decide +kernel
theorem dX8_spread_43 : decode cX8_spread 43 = .ok (.iload_n 1, 1) := by decide +kernel
theorem dX8_spread_44 : decode cX8_spread 44 = .ok (.istore_n 1, 1) := by decide +kernel
theorem dX8_spread_45 : decode cX8_spread 45 = .ok (.iinc 2 1, 3) := by decide +kernel
theorem dX8_spread_48 : decode cX8_spread 48 = .ok (.goto (-44), 3) := by decide +kernel
theorem dX8_spread_51 : decode cX8_spread 51 = .ok (.iload_n 1, 1) := by decide +kernel
theorem dX8_spread_52 : decode cX8_spread 52 = .ok (.ifCond .ge 8, 3) := by decide +kernel
theorem dX8_spread_55 : decode cX8_spread 55 = .ok (.ldc 102, 2) := by decide +kernel
theorem dX8_spread_57 : decode cX8_spread 57 = .ok (.goto 10, 3) := by decide +kernel
theorem dX8_spread_60 : decode cX8_spread 60 = .ok (.iload_n 1, 1) := by decide +kernel
theorem dX8_spread_61 : decode cX8_spread 61 = .ok (.aload_n 0, 1) := by decide +kernel
theorem dX8_spread_62 : decode cX8_spread 62 = .ok (.iconst (-1), 1) := by decide +kernel
theorem dX8_spread_63 : decode cX8_spread 63 = .ok (.invokevirtual 81, 3) := by decide +kernel
theorem dX8_spread_66 : decode cX8_spread 66 = .ok (.isub, 1) := by decide +kernel
theorem dX8_spread_67 : decode cX8_spread 67 = .ok (.ireturn, 1) := by decide +kernel
theorem dX8_touch_0 : decode cX8_touch 0 = .ok (.aload_n 0, 1) := by decide +kernel
theorem dX8_touch_1 : decode cX8_touch 1 = .ok (.iload_n 1, 1) := by decide +kernel
theorem dX8_touch_2 : decode cX8_touch 2 = .ok (.invokevirtual 96, 3) := by decide +kernel
theorem dX8_touch_5 : decode cX8_touch 5 = .ok (.ifCond .eq 28, 3) := by decide +kernel
theorem dX8_touch_8 : decode cX8_touch 8 = .ok (.aload_n 0, 1) := by decide +kernel
theorem dX8_touch_9 : decode cX8_touch 9 = .ok (.iload_n 2, 1) := by decide +kernel
theorem dX8_touch_10 : decode cX8_touch 10 = .ok (.invokevirtual 96, 3) := by decide +kernel
theorem dX8_touch_13 : decode cX8_touch 13 = .ok (.ifCond .eq 20, 3) := by decide +kernel
theorem dX8_touch_16 : decode cX8_touch 16 = .ok (.aload_n 0, 1) := by decide +kernel
theorem dX8_touch_17 : decode cX8_touch 17 = .ok (.iload_n 1, 1) := by decide +kernel
theorem dX8_touch_18 : decode cX8_touch 18 = .ok (.iload_n 2, 1) := by decide +kernel
theorem dX8_touch_19 : decode cX8_touch 19 = .ok (.invokevirtual 125, 3) := by decide +kernel
theorem dX8_touch_22 : decode cX8_touch 22 = .ok (.ifCond .eq 7, 3) := by decide +kernel
theorem dX8_touch_25 : decode cX8_touch 25 = .ok (.iconst 1, 1) := by decide +kernel
theorem dX8_touch_26 : decode cX8_touch 26 = .ok (.goto 9, 3) := by decide +kernel
theorem dX8_touch_29 : decode cX8_touch 29 = .ok (.iconst 0, 1) := by decide +kernel
theorem dX8_touch_30 : decode cX8_touch 30 = .ok (.goto 5, 3) := by decide +kernel
theorem dX8_touch_33 : decode cX8_touch 33 = .ok (.ldc 49, 2) := by decide +kernel
theorem dX8_touch_35 : decode cX8_touch 35 = .ok (.ireturn, 1) := by decide +kernel
theorem dX8_touching_0 : decode cX8_touching 0 = .ok (.aload_n 0, 1) := by decide +kernel
theorem dX8_touching_1 : decode cX8_touching 1 = .ok (.iload_n 1, 1) := by decide +kernel
theorem dX8_touching_2 : decode cX8_touching 2 = .ok (.invokevirtual 96, 3) := by decide +kernel
theorem dX8_touching_5 : decode cX8_touching 5 = .ok (.ifCond .ne 6, 3) := by decide +kernel
theorem dX8_touching_8 : decode cX8_touching 8 = .ok (.ldc 49, 2) := by decide +kernel
theorem dX8_touching_10 : decode cX8_touching 10 = .ok (.ireturn, 1) := by decide +kernel
theorem dX8_touching_11 : decode cX8_touching 11 = .ok (.iconst 0, 1) := by decide +kernel
theorem dX8_touching_12 : decode cX8_touching 12 = .ok (.istore_n 2, 1) := by decide +kernel
theorem dX8_touching_13 : decode cX8_touching 13 = .ok (.iconst 0, 1) := by decide +kernel
theorem dX8_touching_14 : decode cX8_touching 14 = .ok (.istore_n 3, 1) := by decide +kernel
theorem dX8_touching_15 : decode cX8_touching 15 = .ok (.iload_n 3, 1) := by decide +kernel
theorem dX8_touching_16 : decode cX8_touching 16 = .ok (.aload_n 0, 1) := by decide +kernel
theorem dX8_touching_17 : decode cX8_touching 17 = .ok (.getfield 7, 3) := by decide +kernel
theorem dX8_touching_20 : decode cX8_touching 20 = .ok (.iconst 1, 1) := by decide +kernel
theorem dX8_touching_21 : decode cX8_touching 21 = .ok (.iaload, 1) := by decide +kernel
theorem dX8_touching_22 : decode cX8_touching 22 = .ok (.if_icmp .ge 33, 3) := by decide +kernel
theorem dX8_touching_25 : decode cX8_touching 25 = .ok (.iload_n 2, 1) := by decide +kernel
theorem dX8_touching_26 : decode cX8_touching 26 = .ok (.iload_n 3, 1) := by decide +kernel
theorem dX8_touching_27 : decode cX8_touching 27 = .ok (.iload_n 1, 1) := by decide +kernel
theorem dX8_touching_28 : decode cX8_touching 28 = .ok (.if_icmp .eq 18, 3) := by decide +kernel
theorem dX8_touching_31 : decode cX8_touching 31 = .ok (.aload_n 0, 1) := by decide +kernel
theorem dX8_touching_32 : decode cX8_touching 32 = .ok (.iload_n 1, 1) := by decide +kernel
theorem dX8_touching_33 : decode cX8_touching 33 = .ok (.iload_n 3, 1) := by decide +kernel
theorem dX8_touching_34 : decode cX8_touching 34 = .ok (.invokevirtual 125, 3) := by decide +kernel
theorem dX8_touching_37 : decode cX8_touching 37 = .ok (.ifCond .eq 9, 3) := by decide +kernel
theorem dX8_touching_40 : decode cX8_touching 40 = .ok (.iconst 1, 1) := by decide +kernel
theorem dX8_touching_41 : decode cX8_touching 41 = .ok (.iload_n 3, 1) := by decide +kernel
theorem dX8_touching_42 : decode cX8_touching 42 = .ok (.ishl, 1) := by decide +kernel
theorem dX8_touching_43 : decode cX8_touching 43 = .ok (.goto 4, 3) := by decide +kernel
theorem dX8_touching_46 : decode cX8_touching 46 = .ok (.iconst 0, 1) := by decide +kernel
theorem dX8_touching_47 : decode cX8_touching 47 = .ok (.ior, 1) := by decide +kernel
theorem dX8_touching_48 : decode cX8_touching 48 = .ok (.istore_n 2, 1) := by decide +kernel
theorem dX8_touching_49 : decode cX8_touching 49 = .ok (.iinc 3 1, 3) := by decide +kernel
theorem dX8_touching_52 : decode cX8_touching 52 = .ok (.goto (-37), 3) := by decide +kernel
theorem dX8_touching_55 : decode cX8_touching 55 = .ok (.iload_n 2, 1) := by decide +kernel
theorem dX8_touching_56 : decode cX8_touching 56 = .ok (.ireturn, 1) := by decide +kernel
theorem dX8_pensAt_0 : decode cX8_pensAt 0 = .ok (.iconst 0, 1) := by decide +kernel
theorem dX8_pensAt_1 : decode cX8_pensAt 1 = .ok (.istore_n 3, 1) := by decide +kernel
theorem dX8_pensAt_2 : decode cX8_pensAt 2 = .ok (.iconst 0, 1) := by decide +kernel
theorem dX8_pensAt_3 : decode cX8_pensAt 3 = .ok (.istore 4, 2) := by decide +kernel
theorem dX8_pensAt_5 : decode cX8_pensAt 5 = .ok (.iload 4, 2) := by decide +kernel
theorem dX8_pensAt_7 : decode cX8_pensAt 7 = .ok (.iconst 2, 1) := by decide +kernel
theorem dX8_pensAt_8 : decode cX8_pensAt 8 = .ok (.aload_n 0, 1) := by decide +kernel
theorem dX8_pensAt_9 : decode cX8_pensAt 9 = .ok (.getfield 7, 3) := by decide +kernel
theorem dX8_pensAt_12 : decode cX8_pensAt 12 = .ok (.iconst 1, 1) := by decide +kernel
theorem dX8_pensAt_13 : decode cX8_pensAt 13 = .ok (.iaload, 1) := by decide +kernel
theorem dX8_pensAt_14 : decode cX8_pensAt 14 = .ok (.imul, 1) := by decide +kernel
theorem dX8_pensAt_15 : decode cX8_pensAt 15 = .ok (.if_icmp .ge 88, 3) := by decide +kernel
theorem dX8_pensAt_18 : decode cX8_pensAt 18 = .ok (.aload_n 0, 1) := by decide +kernel
theorem dX8_pensAt_19 : decode cX8_pensAt 19 = .ok (.iload 4, 2) := by decide +kernel
theorem dX8_pensAt_21 : decode cX8_pensAt 21 = .ok (.iconst 2, 1) := by decide +kernel
theorem dX8_pensAt_22 : decode cX8_pensAt 22 = .ok (.idiv, 1) := by decide +kernel
theorem dX8_pensAt_23 : decode cX8_pensAt 23 = .ok (.invokevirtual 93, 3) := by decide +kernel
theorem dX8_pensAt_26 : decode cX8_pensAt 26 = .ok (.ifCond .eq 45, 3) := by decide +kernel
theorem dX8_pensAt_29 : decode cX8_pensAt 29 = .ok (.aload_n 0, 1) := by decide +kernel
theorem dX8_pensAt_30 : decode cX8_pensAt 30 = .ok (.iload 4, 2) := by decide +kernel
theorem dX8_pensAt_32 : decode cX8_pensAt 32 = .ok (.iconst 2, 1) := by decide +kernel
theorem dX8_pensAt_33 : decode cX8_pensAt 33 = .ok (.idiv, 1) := by decide +kernel
theorem dX8_pensAt_34 : decode cX8_pensAt 34 = .ok (.iconst 2, 1) := by decide +kernel
theorem dX8_pensAt_35 : decode cX8_pensAt 35 = .ok (.iload 4, 2) := by decide +kernel
theorem dX8_pensAt_37 : decode cX8_pensAt 37 = .ok (.iconst 2, 1) := by decide +kernel
theorem dX8_pensAt_38 : decode cX8_pensAt 38 = .ok (.irem, 1) := by decide +kernel
theorem dX8_pensAt_39 : decode cX8_pensAt 39 = .ok (.imul, 1) := by decide +kernel
theorem dX8_pensAt_40 : decode cX8_pensAt 40 = .ok (.invokevirtual 45, 3) := by decide +kernel
theorem dX8_pensAt_43 : decode cX8_pensAt 43 = .ok (.iload_n 1, 1) := by decide +kernel
theorem dX8_pensAt_44 : decode cX8_pensAt 44 = .ok (.if_icmp .ne 27, 3) := by decide +kernel
theorem dX8_pensAt_47 : decode cX8_pensAt 47 = .ok (.aload_n 0, 1) := by decide +kernel
theorem dX8_pensAt_48 : decode cX8_pensAt 48 = .ok (.iload 4, 2) := by decide +kernel
theorem dX8_pensAt_50 : decode cX8_pensAt 50 = .ok (.iconst 2, 1) := by decide +kernel
theorem dX8_pensAt_51 : decode cX8_pensAt 51 = .ok (.idiv, 1) := by decide +kernel
theorem dX8_pensAt_52 : decode cX8_pensAt 52 = .ok (.iconst 2, 1) := by decide +kernel
theorem dX8_pensAt_53 : decode cX8_pensAt 53 = .ok (.iload 4, 2) := by decide +kernel
theorem dX8_pensAt_55 : decode cX8_pensAt 55 = .ok (.iconst 2, 1) := by decide +kernel
theorem dX8_pensAt_56 : decode cX8_pensAt 56 = .ok (.irem, 1) := by decide +kernel
theorem dX8_pensAt_57 : decode cX8_pensAt 57 = .ok (.imul, 1) := by decide +kernel
theorem dX8_pensAt_58 : decode cX8_pensAt 58 = .ok (.iconst 1, 1) := by decide +kernel
theorem dX8_pensAt_59 : decode cX8_pensAt 59 = .ok (.iadd, 1) := by decide +kernel
theorem dX8_pensAt_60 : decode cX8_pensAt 60 = .ok (.invokevirtual 45, 3) := by decide +kernel
theorem dX8_pensAt_63 : decode cX8_pensAt 63 = .ok (.iload_n 2, 1) := by decide +kernel
theorem dX8_pensAt_64 : decode cX8_pensAt 64 = .ok (.if_icmp .ne 7, 3) := by decide +kernel
theorem dX8_pensAt_67 : decode cX8_pensAt 67 = .ok (.iconst 1, 1) := by decide +kernel
theorem dX8_pensAt_68 : decode cX8_pensAt 68 = .ok (.goto 4, 3) := by decide +kernel
theorem dX8_pensAt_71 : decode cX8_pensAt 71 = .ok (.iconst 0, 1) := by decide +kernel
theorem dX8_pensAt_72 : decode cX8_pensAt 72 = .ok (.istore 5, 2) := by decide +kernel
theorem dX8_pensAt_74 : decode cX8_pensAt 74 = .ok (.iload_n 3, 1) := by decide +kernel
theorem dX8_pensAt_75 : decode cX8_pensAt 75 = .ok (.iload 5, 2) := by decide +kernel
theorem dX8_pensAt_77 : decode cX8_pensAt 77 = .ok (.ifCond .eq 17, 3) := by decide +kernel
theorem dX8_pensAt_80 : decode cX8_pensAt 80 = .ok (.iconst 1, 1) := by decide +kernel
theorem dX8_pensAt_81 : decode cX8_pensAt 81 = .ok (.aload_n 0, 1) := by decide +kernel
theorem dX8_pensAt_82 : decode cX8_pensAt 82 = .ok (.iload 4, 2) := by decide +kernel
theorem dX8_pensAt_84 : decode cX8_pensAt 84 = .ok (.iconst 2, 1) := by decide +kernel
theorem dX8_pensAt_85 : decode cX8_pensAt 85 = .ok (.idiv, 1) := by decide +kernel
theorem dX8_pensAt_86 : decode cX8_pensAt 86 = .ok (.iconst 4, 1) := by decide +kernel
theorem dX8_pensAt_87 : decode cX8_pensAt 87 = .ok (.invokevirtual 45, 3) := by decide +kernel
theorem dX8_pensAt_90 : decode cX8_pensAt 90 = .ok (.ishl, 1) := by decide +kernel
theorem dX8_pensAt_91 : decode cX8_pensAt 91 = .ok (.goto 4, 3) := by decide +kernel
theorem dX8_pensAt_94 : decode cX8_pensAt 94 = .ok (.iconst 0, 1) := by decide +kernel
theorem dX8_pensAt_95 : decode cX8_pensAt 95 = .ok (.ior, 1) := by decide +kernel
theorem dX8_pensAt_96 : decode cX8_pensAt 96 = .ok (.istore_n 3, 1) := by decide +kernel
theorem dX8_pensAt_97 : decode cX8_pensAt 97 = .ok (.iinc 4 1, 3) := by decide +kernel
theorem dX8_pensAt_100 : decode cX8_pensAt 100 = .ok (.goto (-95), 3) := by decide +kernel
theorem dX8_pensAt_103 : decode cX8_pensAt 103 = .ok (.iload_n 3, 1) := by decide +kernel
theorem dX8_pensAt_104 : decode cX8_pensAt 104 = .ok (.ireturn, 1) := by decide +kernel
theorem dX8_isSome_0 : decode cX8_isSome 0 = .ok (.iload_n 0, 1) := by decide +kernel
theorem dX8_isSome_1 : decode cX8_isSome 1 = .ok (.iload_n 0, 1) := by decide +kernel
theorem dX8_isSome_2 : decode cX8_isSome 2 = .ok (.iconst 1, 1) := by decide +kernel
theorem dX8_isSome_3 : decode cX8_isSome 3 = .ok (.isub, 1) := by decide +kernel
theorem dX8_isSome_4 : decode cX8_isSome 4 = .ok (.iand, 1) := by decide +kernel
theorem dX8_isSome_5 : decode cX8_isSome 5 = .ok (.ifCond .eq 7, 3) := by decide +kernel
theorem dX8_isSome_8 : decode cX8_isSome 8 = .ok (.iconst 1, 1) := by decide +kernel
theorem dX8_isSome_9 : decode cX8_isSome 9 = .ok (.goto 4, 3) := by decide +kernel
theorem dX8_isSome_12 : decode cX8_isSome 12 = .ok (.iconst 0, 1) := by decide +kernel
theorem dX8_isSome_13 : decode cX8_isSome 13 = .ok (.ireturn, 1) := by decide +kernel
theorem dX8_seams_0 : decode cX8_seams 0 = .ok (.iconst 0, 1) := by decide +kernel
theorem dX8_seams_1 : decode cX8_seams 1 = .ok (.istore_n 1, 1) := by decide +kernel
theorem dX8_seams_2 : decode cX8_seams 2 = .ok (.iconst 0, 1) := by decide +kernel
theorem dX8_seams_3 : decode cX8_seams 3 = .ok (.istore_n 2, 1) := by decide +kernel
theorem dX8_seams_4 : decode cX8_seams 4 = .ok (.iload_n 2, 1) := by decide +kernel
theorem dX8_seams_5 : decode cX8_seams 5 = .ok (.iconst 2, 1) := by decide +kernel
theorem dX8_seams_6 : decode cX8_seams 6 = .ok (.aload_n 0, 1) := by decide +kernel
theorem dX8_seams_7 : decode cX8_seams 7 = .ok (.getfield 7, 3) := by decide +kernel
theorem dX8_seams_10 : decode cX8_seams 10 = .ok (.iconst 1, 1) := by decide +kernel
theorem dX8_seams_11 : decode cX8_seams 11 = .ok (.iaload, 1) := by decide +kernel
theorem dX8_seams_12 : decode cX8_seams 12 = .ok (.imul, 1) := by decide +kernel
theorem dX8_seams_13 : decode cX8_seams 13 = .ok (.if_icmp .ge 158, 3) := by decide +kernel
theorem dX8_seams_16 : decode cX8_seams 16 = .ok (.aload_n 0, 1) := by decide +kernel
theorem dX8_seams_17 : decode cX8_seams 17 = .ok (.iload_n 2, 1) := by decide +kernel
theorem dX8_seams_18 : decode cX8_seams 18 = .ok (.iconst 2, 1) := by decide +kernel
theorem dX8_seams_19 : decode cX8_seams 19 = .ok (.idiv, 1) := by decide +kernel
theorem dX8_seams_20 : decode cX8_seams 20 = .ok (.iconst 2, 1) := by decide +kernel
theorem dX8_seams_21 : decode cX8_seams 21 = .ok (.iload_n 2, 1) := by decide +kernel
theorem dX8_seams_22 : decode cX8_seams 22 = .ok (.iconst 2, 1) := by decide +kernel
theorem dX8_seams_23 : decode cX8_seams 23 = .ok (.irem, 1) := by decide +kernel
theorem dX8_seams_24 : decode cX8_seams 24 = .ok (.imul, 1) := by decide +kernel
theorem dX8_seams_25 : decode cX8_seams 25 = .ok (.invokevirtual 45, 3) := by decide +kernel
theorem dX8_seams_28 : decode cX8_seams 28 = .ok (.istore_n 3, 1) := by decide +kernel
theorem dX8_seams_29 : decode cX8_seams 29 = .ok (.aload_n 0, 1) := by decide +kernel
theorem dX8_seams_30 : decode cX8_seams 30 = .ok (.iload_n 2, 1) := by decide +kernel
theorem dX8_seams_31 : decode cX8_seams 31 = .ok (.iconst 2, 1) := by decide +kernel
theorem dX8_seams_32 : decode cX8_seams 32 = .ok (.idiv, 1) := by decide +kernel
theorem dX8_seams_33 : decode cX8_seams 33 = .ok (.iconst 2, 1) := by decide +kernel
theorem dX8_seams_34 : decode cX8_seams 34 = .ok (.iload_n 2, 1) := by decide +kernel
theorem dX8_seams_35 : decode cX8_seams 35 = .ok (.iconst 2, 1) := by decide +kernel
theorem dX8_seams_36 : decode cX8_seams 36 = .ok (.irem, 1) := by decide +kernel
theorem dX8_seams_37 : decode cX8_seams 37 = .ok (.imul, 1) := by decide +kernel
theorem dX8_seams_38 : decode cX8_seams 38 = .ok (.iconst 1, 1) := by decide +kernel
theorem dX8_seams_39 : decode cX8_seams 39 = .ok (.iadd, 1) := by decide +kernel
theorem dX8_seams_40 : decode cX8_seams 40 = .ok (.invokevirtual 45, 3) := by decide +kernel
theorem dX8_seams_43 : decode cX8_seams 43 = .ok (.istore 4, 2) := by decide +kernel
theorem dX8_seams_45 : decode cX8_seams 45 = .ok (.aload_n 0, 1) := by decide +kernel
theorem dX8_seams_46 : decode cX8_seams 46 = .ok (.iload_n 2, 1) := by decide +kernel
theorem dX8_seams_47 : decode cX8_seams 47 = .ok (.iconst 2, 1) := by decide +kernel
theorem dX8_seams_48 : decode cX8_seams 48 = .ok (.idiv, 1) := by decide +kernel
theorem dX8_seams_49 : decode cX8_seams 49 = .ok (.invokevirtual 93, 3) := by decide +kernel
theorem dX8_seams_52 : decode cX8_seams 52 = .ok (.ifCond .eq 20, 3) := by decide +kernel
theorem dX8_seams_55 : decode cX8_seams 55 = .ok (.aload_n 0, 1) := by decide +kernel
theorem dX8_seams_56 : decode cX8_seams 56 = .ok (.iload_n 3, 1) := by decide +kernel
theorem dX8_seams_57 : decode cX8_seams 57 = .ok (.iload 4, 2) := by decide +kernel
theorem dX8_seams_59 : decode cX8_seams 59 = .ok (.invokevirtual 157, 3) := by decide +kernel
theorem dX8_seams_62 : decode cX8_seams 62 = .ok (.invokestatic 160, 3) := by decide +kernel
theorem dX8_seams_65 : decode cX8_seams 65 = .ok (.ifCond .eq 7, 3) := by decide +kernel
theorem dX8_seams_68 : decode cX8_seams 68 = .ok (.iconst 1, 1) := by decide +kernel
theorem dX8_seams_69 : decode cX8_seams 69 = .ok (.goto 4, 3) := by decide +kernel
theorem dX8_seams_72 : decode cX8_seams 72 = .ok (.iconst 0, 1) := by decide +kernel
theorem dX8_seams_73 : decode cX8_seams 73 = .ok (.istore 5, 2) := by decide +kernel
theorem dX8_seams_75 : decode cX8_seams 75 = .ok (.iconst 0, 1) := by decide +kernel
theorem dX8_seams_76 : decode cX8_seams 76 = .ok (.istore 6, 2) := by decide +kernel
theorem dX8_seams_78 : decode cX8_seams 78 = .ok (.iload 6, 2) := by decide +kernel
theorem dX8_seams_80 : decode cX8_seams 80 = .ok (.iload_n 2, 1) := by decide +kernel
theorem dX8_seams_81 : decode cX8_seams 81 = .ok (.if_icmp .ge 71, 3) := by decide +kernel
theorem dX8_seams_84 : decode cX8_seams 84 = .ok (.iload 5, 2) := by decide +kernel
theorem dX8_seams_86 : decode cX8_seams 86 = .ok (.ifCond .eq 57, 3) := by decide +kernel
theorem dX8_seams_89 : decode cX8_seams 89 = .ok (.aload_n 0, 1) := by decide +kernel
theorem dX8_seams_90 : decode cX8_seams 90 = .ok (.iload 6, 2) := by decide +kernel
theorem dX8_seams_92 : decode cX8_seams 92 = .ok (.iconst 2, 1) := by decide +kernel
theorem dX8_seams_93 : decode cX8_seams 93 = .ok (.idiv, 1) := by decide +kernel
theorem dX8_seams_94 : decode cX8_seams 94 = .ok (.invokevirtual 93, 3) := by decide +kernel
theorem dX8_seams_97 : decode cX8_seams 97 = .ok (.ifCond .eq 42, 3) := by decide +kernel
theorem dX8_seams_100 : decode cX8_seams 100 = .ok (.aload_n 0, 1) := by decide +kernel
theorem dX8_seams_101 : decode cX8_seams 101 = .ok (.iload 6, 2) := by decide +kernel
theorem dX8_seams_103 : decode cX8_seams 103 = .ok (.iconst 2, 1) := by decide +kernel
theorem dX8_seams_104 : decode cX8_seams 104 = .ok (.idiv, 1) := by decide +kernel
theorem dX8_seams_105 : decode cX8_seams 105 = .ok (.iconst 2, 1) := by decide +kernel
theorem dX8_seams_106 : decode cX8_seams 106 = .ok (.iload 6, 2) := by decide +kernel
theorem dX8_seams_108 : decode cX8_seams 108 = .ok (.iconst 2, 1) := by decide +kernel
theorem dX8_seams_109 : decode cX8_seams 109 = .ok (.irem, 1) := by decide +kernel
theorem dX8_seams_110 : decode cX8_seams 110 = .ok (.imul, 1) := by decide +kernel
theorem dX8_seams_111 : decode cX8_seams 111 = .ok (.invokevirtual 45, 3) := by decide +kernel
theorem dX8_seams_114 : decode cX8_seams 114 = .ok (.iload_n 3, 1) := by decide +kernel
theorem dX8_seams_115 : decode cX8_seams 115 = .ok (.if_icmp .ne 24, 3) := by decide +kernel
theorem dX8_seams_118 : decode cX8_seams 118 = .ok (.aload_n 0, 1) := by decide +kernel
theorem dX8_seams_119 : decode cX8_seams 119 = .ok (.iload 6, 2) := by decide +kernel
theorem dX8_seams_121 : decode cX8_seams 121 = .ok (.iconst 2, 1) := by decide +kernel
theorem dX8_seams_122 : decode cX8_seams 122 = .ok (.idiv, 1) := by decide +kernel
theorem dX8_seams_123 : decode cX8_seams 123 = .ok (.iconst 2, 1) := by decide +kernel
theorem dX8_seams_124 : decode cX8_seams 124 = .ok (.iload 6, 2) := by decide +kernel
theorem dX8_seams_126 : decode cX8_seams 126 = .ok (.iconst 2, 1) := by decide +kernel
theorem dX8_seams_127 : decode cX8_seams 127 = .ok (.irem, 1) := by decide +kernel
theorem dX8_seams_128 : decode cX8_seams 128 = .ok (.imul, 1) := by decide +kernel
theorem dX8_seams_129 : decode cX8_seams 129 = .ok (.iconst 1, 1) := by decide +kernel
theorem dX8_seams_130 : decode cX8_seams 130 = .ok (.iadd, 1) := by decide +kernel
theorem dX8_seams_131 : decode cX8_seams 131 = .ok (.invokevirtual 45, 3) := by decide +kernel
theorem dX8_seams_134 : decode cX8_seams 134 = .ok (.iload 4, 2) := by decide +kernel
theorem dX8_seams_136 : decode cX8_seams 136 = .ok (.if_icmp .eq 7, 3) := by decide +kernel
theorem dX8_seams_139 : decode cX8_seams 139 = .ok (.iconst 1, 1) := by decide +kernel
theorem dX8_seams_140 : decode cX8_seams 140 = .ok (.goto 4, 3) := by decide +kernel
theorem dX8_seams_143 : decode cX8_seams 143 = .ok (.iconst 0, 1) := by decide +kernel
theorem dX8_seams_144 : decode cX8_seams 144 = .ok (.istore 5, 2) := by decide +kernel
theorem dX8_seams_146 : decode cX8_seams 146 = .ok (.iinc 6 1, 3) := by decide +kernel
theorem dX8_seams_149 : decode cX8_seams 149 = .ok (.goto (-71), 3) := by decide +kernel
theorem dX8_seams_152 : decode cX8_seams 152 = .ok (.iload_n 1, 1) := by decide +kernel
theorem dX8_seams_153 : decode cX8_seams 153 = .ok (.iload 5, 2) := by decide +kernel
theorem dX8_seams_155 : decode cX8_seams 155 = .ok (.ifCond .eq 7, 3) := by decide +kernel
theorem dX8_seams_158 : decode cX8_seams 158 = .ok (.iconst 1, 1) := by decide +kernel
theorem dX8_seams_159 : decode cX8_seams 159 = .ok (.goto 4, 3) := by decide +kernel
theorem dX8_seams_162 : decode cX8_seams 162 = .ok (.iconst 0, 1) := by decide +kernel
theorem dX8_seams_163 : decode cX8_seams 163 = .ok (.iadd, 1) := by decide +kernel
theorem dX8_seams_164 : decode cX8_seams 164 = .ok (.istore_n 1, 1) := by decide +kernel
theorem dX8_seams_165 : decode cX8_seams 165 = .ok (.iinc 2 1, 3) := by decide +kernel
theorem dX8_seams_168 : decode cX8_seams 168 = .ok (.goto (-164), 3) := by decide +kernel
theorem dX8_seams_171 : decode cX8_seams 171 = .ok (.iload_n 1, 1) := by decide +kernel
theorem dX8_seams_172 : decode cX8_seams 172 = .ok (.ireturn, 1) := by decide +kernel
theorem dX8_seamsBy_0 : decode cX8_seamsBy 0 = .ok (.aload_n 0, 1) := by decide +kernel
theorem dX8_seamsBy_1 : decode cX8_seamsBy 1 = .ok (.iload_n 1, 1) := by decide +kernel
theorem dX8_seamsBy_2 : decode cX8_seamsBy 2 = .ok (.invokevirtual 96, 3) := by decide +kernel
theorem dX8_seamsBy_5 : decode cX8_seamsBy 5 = .ok (.ifCond .eq 11, 3) := by decide +kernel
theorem dX8_seamsBy_8 : decode cX8_seamsBy 8 = .ok (.aload_n 0, 1) := by decide +kernel
theorem dX8_seamsBy_9 : decode cX8_seamsBy 9 = .ok (.iload_n 2, 1) := by decide +kernel
theorem dX8_seamsBy_10 : decode cX8_seamsBy 10 = .ok (.invokevirtual 74, 3) := by decide +kernel
theorem dX8_seamsBy_13 : decode cX8_seamsBy 13 = .ok (.ifCond .ne 6, 3) := by decide +kernel
theorem dX8_seamsBy_16 : decode cX8_seamsBy 16 = .ok (.ldc 49, 2) := by decide +kernel
theorem dX8_seamsBy_18 : decode cX8_seamsBy 18 = .ok (.ireturn, 1) := by decide +kernel
theorem dX8_seamsBy_19 : decode cX8_seamsBy 19 = .ok (.aload_n 0, 1) := by decide +kernel
theorem dX8_seamsBy_20 : decode cX8_seamsBy 20 = .ok (.iload_n 1, 1) := by decide +kernel
theorem dX8_seamsBy_21 : decode cX8_seamsBy 21 = .ok (.invokevirtual 93, 3) := by decide +kernel
theorem dX8_seamsBy_24 : decode cX8_seamsBy 24 = .ok (.ifCond .eq 6, 3) := by decide +kernel
theorem dX8_seamsBy_27 : decode cX8_seamsBy 27 = .ok (.ldc 64, 2) := by decide +kernel
theorem dX8_seamsBy_29 : decode cX8_seamsBy 29 = .ok (.ireturn, 1) := by decide +kernel
theorem dX8_seamsBy_30 : decode cX8_seamsBy 30 = .ok (.iconst 0, 1) := by decide +kernel
theorem dX8_seamsBy_31 : decode cX8_seamsBy 31 = .ok (.istore_n 3, 1) := by decide +kernel
theorem dX8_seamsBy_32 : decode cX8_seamsBy 32 = .ok (.iconst 0, 1) := by decide +kernel
theorem dX8_seamsBy_33 : decode cX8_seamsBy 33 = .ok (.istore 4, 2) := by decide +kernel
theorem dX8_seamsBy_35 : decode cX8_seamsBy 35 = .ok (.iload 4, 2) := by decide +kernel
theorem dX8_seamsBy_37 : decode cX8_seamsBy 37 = .ok (.iconst 2, 1) := by decide +kernel
theorem dX8_seamsBy_38 : decode cX8_seamsBy 38 = .ok (.if_icmp .ge 63, 3) := by decide +kernel
theorem dX8_seamsBy_41 : decode cX8_seamsBy 41 = .ok (.aload_n 0, 1) := by decide +kernel
theorem dX8_seamsBy_42 : decode cX8_seamsBy 42 = .ok (.aload_n 0, 1) := by decide +kernel
theorem dX8_seamsBy_43 : decode cX8_seamsBy 43 = .ok (.iload_n 1, 1) := by decide +kernel
theorem dX8_seamsBy_44 : decode cX8_seamsBy 44 = .ok (.iconst 2, 1) := by decide +kernel
theorem dX8_seamsBy_45 : decode cX8_seamsBy 45 = .ok (.iload 4, 2) := by decide +kernel
theorem dX8_seamsBy_47 : decode cX8_seamsBy 47 = .ok (.imul, 1) := by decide +kernel
theorem dX8_seamsBy_48 : decode cX8_seamsBy 48 = .ok (.invokevirtual 45, 3) := by decide +kernel
theorem dX8_seamsBy_51 : decode cX8_seamsBy 51 = .ok (.aload_n 0, 1) := by decide +kernel
theorem dX8_seamsBy_52 : decode cX8_seamsBy 52 = .ok (.iload_n 1, 1) := by decide +kernel
theorem dX8_seamsBy_53 : decode cX8_seamsBy 53 = .ok (.iconst 2, 1) := by decide +kernel
theorem dX8_seamsBy_54 : decode cX8_seamsBy 54 = .ok (.iload 4, 2) := by decide +kernel
theorem dX8_seamsBy_56 : decode cX8_seamsBy 56 = .ok (.imul, 1) := by decide +kernel
theorem dX8_seamsBy_57 : decode cX8_seamsBy 57 = .ok (.iconst 1, 1) := by decide +kernel
theorem dX8_seamsBy_58 : decode cX8_seamsBy 58 = .ok (.iadd, 1) := by decide +kernel
theorem dX8_seamsBy_59 : decode cX8_seamsBy 59 = .ok (.invokevirtual 45, 3) := by decide +kernel
theorem dX8_seamsBy_62 : decode cX8_seamsBy 62 = .ok (.invokevirtual 157, 3) := by decide +kernel
theorem dX8_seamsBy_65 : decode cX8_seamsBy 65 = .ok (.istore 5, 2) := by decide +kernel
theorem dX8_seamsBy_67 : decode cX8_seamsBy 67 = .ok (.iload_n 3, 1) := by decide +kernel
theorem dX8_seamsBy_68 : decode cX8_seamsBy 68 = .ok (.iload 5, 2) := by decide +kernel
theorem dX8_seamsBy_70 : decode cX8_seamsBy 70 = .ok (.invokestatic 160, 3) := by decide +kernel
theorem dX8_seamsBy_73 : decode cX8_seamsBy 73 = .ok (.ifCond .ne 19, 3) := by decide +kernel
theorem dX8_seamsBy_76 : decode cX8_seamsBy 76 = .ok (.iload 5, 2) := by decide +kernel
theorem dX8_seamsBy_78 : decode cX8_seamsBy 78 = .ok (.iconst 1, 1) := by decide +kernel
theorem dX8_seamsBy_79 : decode cX8_seamsBy 79 = .ok (.iload_n 2, 1) := by decide +kernel
theorem dX8_seamsBy_80 : decode cX8_seamsBy 80 = .ok (.ishl, 1) := by decide +kernel
theorem dX8_seamsBy_81 : decode cX8_seamsBy 81 = .ok (.ior, 1) := by decide +kernel
theorem dX8_seamsBy_82 : decode cX8_seamsBy 82 = .ok (.invokestatic 160, 3) := by decide +kernel
theorem dX8_seamsBy_85 : decode cX8_seamsBy 85 = .ok (.ifCond .eq 7, 3) := by decide +kernel
theorem dX8_seamsBy_88 : decode cX8_seamsBy 88 = .ok (.iconst 1, 1) := by decide +kernel
theorem dX8_seamsBy_89 : decode cX8_seamsBy 89 = .ok (.goto 4, 3) := by decide +kernel
theorem dX8_seamsBy_92 : decode cX8_seamsBy 92 = .ok (.iconst 0, 1) := by decide +kernel
theorem dX8_seamsBy_93 : decode cX8_seamsBy 93 = .ok (.iadd, 1) := by decide +kernel
theorem dX8_seamsBy_94 : decode cX8_seamsBy 94 = .ok (.istore_n 3, 1) := by decide +kernel
theorem dX8_seamsBy_95 : decode cX8_seamsBy 95 = .ok (.iinc 4 1, 3) := by decide +kernel
theorem dX8_seamsBy_98 : decode cX8_seamsBy 98 = .ok (.goto (-63), 3) := by decide +kernel
theorem dX8_seamsBy_101 : decode cX8_seamsBy 101 = .ok (.iload_n 3, 1) := by decide +kernel
theorem dX8_seamsBy_102 : decode cX8_seamsBy 102 = .ok (.ireturn, 1) := by decide +kernel
theorem dX8_meanShade_0 : decode cX8_meanShade 0 = .ok (.dconst 0, 1) := by decide +kernel
theorem dX8_meanShade_1 : decode cX8_meanShade 1 = .ok (.dstore_n 1, 1) := by decide +kernel
theorem dX8_meanShade_2 : decode cX8_meanShade 2 = .ok (.iconst 0, 1) := by decide +kernel
theorem dX8_meanShade_3 : decode cX8_meanShade 3 = .ok (.istore_n 3, 1) := by decide +kernel
theorem dX8_meanShade_4 : decode cX8_meanShade 4 = .ok (.iconst 0, 1) := by decide +kernel
theorem dX8_meanShade_5 : decode cX8_meanShade 5 = .ok (.istore 4, 2) := by decide +kernel
theorem dX8_meanShade_7 : decode cX8_meanShade 7 = .ok (.iload 4, 2) := by decide +kernel
theorem dX8_meanShade_9 : decode cX8_meanShade 9 = .ok (.aload_n 0, 1) := by decide +kernel
theorem dX8_meanShade_10 : decode cX8_meanShade 10 = .ok (.getfield 7, 3) := by decide +kernel
theorem dX8_meanShade_13 : decode cX8_meanShade 13 = .ok (.iconst 1, 1) := by decide +kernel
theorem dX8_meanShade_14 : decode cX8_meanShade 14 = .ok (.iaload, 1) := by decide +kernel
theorem dX8_meanShade_15 : decode cX8_meanShade 15 = .ok (.if_icmp .ge 36, 3) := by decide +kernel
theorem dX8_meanShade_18 : decode cX8_meanShade 18 = .ok (.aload_n 0, 1) := by decide +kernel
theorem dX8_meanShade_19 : decode cX8_meanShade 19 = .ok (.iload 4, 2) := by decide +kernel
theorem dX8_meanShade_21 : decode cX8_meanShade 21 = .ok (.invokevirtual 93, 3) := by decide +kernel
theorem dX8_meanShade_24 : decode cX8_meanShade 24 = .ok (.ifCond .eq 21, 3) := by decide +kernel
theorem dX8_meanShade_27 : decode cX8_meanShade 27 = .ok (.dload_n 1, 1) := by decide +kernel
theorem dX8_meanShade_28 : decode cX8_meanShade 28 = .ok (.aload_n 0, 1) := by decide +kernel
theorem dX8_meanShade_29 : decode cX8_meanShade 29 = .ok (.iload 4, 2) := by decide +kernel
theorem dX8_meanShade_31 : decode cX8_meanShade 31 = .ok (.bipush 7, 2) := by decide +kernel
theorem dX8_meanShade_33 : decode cX8_meanShade 33 = .ok (.invokevirtual 45, 3) := by decide +kernel
theorem dX8_meanShade_36 : decode cX8_meanShade 36 = .ok (.invokestatic 163, 3) := by decide +kernel
theorem dX8_meanShade_39 : decode cX8_meanShade 39 = .ok (.f2d, 1) := by decide +kernel
theorem dX8_meanShade_40 : decode cX8_meanShade 40 = .ok (.dadd, 1) := by decide +kernel
theorem dX8_meanShade_41 : decode cX8_meanShade 41 = .ok (.dstore_n 1, 1) := by decide +kernel
theorem dX8_meanShade_42 : decode cX8_meanShade 42 = .ok (.iinc 3 1, 3) := by decide +kernel
theorem dX8_meanShade_45 : decode cX8_meanShade 45 = .ok (.iinc 4 1, 3) := by decide +kernel
theorem dX8_meanShade_48 : decode cX8_meanShade 48 = .ok (.goto (-41), 3) := by decide +kernel
theorem dX8_meanShade_51 : decode cX8_meanShade 51 = .ok (.iload_n 3, 1) := by decide +kernel
theorem dX8_meanShade_52 : decode cX8_meanShade 52 = .ok (.ifCond .ne 8, 3) := by decide +kernel
theorem dX8_meanShade_55 : decode cX8_meanShade 55 = .ok (.ldc 102, 2) := by decide +kernel
theorem dX8_meanShade_57 : decode cX8_meanShade 57 = .ok (.goto 11, 3) := by decide +kernel
theorem dX8_meanShade_60 : decode cX8_meanShade 60 = .ok (.dload_n 1, 1) := by decide +kernel
theorem dX8_meanShade_61 : decode cX8_meanShade 61 = .ok (.iload_n 3, 1) := by decide +kernel
theorem dX8_meanShade_62 : decode cX8_meanShade 62 = .ok (.i2d, 1) := by decide +kernel
theorem dX8_meanShade_63 : decode cX8_meanShade 63 = .ok (.ddiv, 1) := by decide +kernel
theorem dX8_meanShade_64 : decode cX8_meanShade 64 = .ok (.d2f, 1) := by decide +kernel
theorem dX8_meanShade_65 : decode cX8_meanShade 65 = .ok (.invokestatic 142, 3) := by decide +kernel
theorem dX8_meanShade_68 : decode cX8_meanShade 68 = .ok (.ireturn, 1) := by decide +kernel
theorem dX8_plans_0 : decode cX8_plans 0 = .ok (.iconst 0, 1) := by decide +kernel
theorem dX8_plans_1 : decode cX8_plans 1 = .ok (.istore_n 1, 1) := by decide +kernel
theorem dX8_plans_2 : decode cX8_plans 2 = .ok (.iload_n 1, 1) := by decide +kernel
theorem dX8_plans_3 : decode cX8_plans 3 = .ok (.iconst 5, 1) := by decide +kernel
theorem dX8_plans_4 : decode cX8_plans 4 = .ok (.if_icmp .ge 35, 3) := by decide +kernel
theorem dX8_plans_7 : decode cX8_plans 7 = .ok (.aload_n 0, 1) := by decide +kernel
theorem dX8_plans_8 : decode cX8_plans 8 = .ok (.getfield 29, 3) := by decide +kernel
theorem dX8_plans_11 : decode cX8_plans 11 = .ok (.iload_n 1, 1) := by decide +kernel
theorem dX8_plans_12 : decode cX8_plans 12 = .ok (.iload_n 1, 1) := by decide +kernel
theorem dX8_plans_13 : decode cX8_plans 13 = .ok (.aload_n 0, 1) := by decide +kernel
theorem dX8_plans_14 : decode cX8_plans 14 = .ok (.getfield 7, 3) := by decide +kernel
theorem dX8_plans_17 : decode cX8_plans 17 = .ok (.iconst 0, 1) := by decide +kernel
theorem dX8_plans_18 : decode cX8_plans 18 = .ok (.iaload, 1) := by decide +kernel
theorem dX8_plans_19 : decode cX8_plans 19 = .ok (.if_icmp .ge 12, 3) := by decide +kernel
theorem dX8_plans_22 : decode cX8_plans 22 = .ok (.aload_n 0, 1) := by decide +kernel
theorem dX8_plans_23 : decode cX8_plans 23 = .ok (.iload_n 1, 1) := by decide +kernel
theorem dX8_plans_24 : decode cX8_plans 24 = .ok (.iconst 3, 1) := by decide +kernel
theorem dX8_plans_25 : decode cX8_plans 25 = .ok (.invokevirtual 61, 3) := by decide +kernel
theorem dX8_plans_28 : decode cX8_plans 28 = .ok (.goto 4, 3) := by decide +kernel
theorem dX8_plans_31 : decode cX8_plans 31 = .ok (.iconst 0, 1) := by decide +kernel
theorem dX8_plans_32 : decode cX8_plans 32 = .ok (.iastore, 1) := by decide +kernel
theorem dX8_plans_33 : decode cX8_plans 33 = .ok (.iinc 1 1, 3) := by decide +kernel
theorem dX8_plans_36 : decode cX8_plans 36 = .ok (.goto (-34), 3) := by decide +kernel
theorem dX8_plans_39 : decode cX8_plans 39 = .ok (.iconst 0, 1) := by decide +kernel
theorem dX8_plans_40 : decode cX8_plans 40 = .ok (.istore_n 1, 1) := by decide +kernel
theorem dX8_plans_41 : decode cX8_plans 41 = .ok (.iload_n 1, 1) := by decide +kernel
theorem dX8_plans_42 : decode cX8_plans 42 = .ok (.bipush 16, 2) := by decide +kernel
theorem dX8_plans_44 : decode cX8_plans 44 = .ok (.if_icmp .ge 16, 3) := by decide +kernel
theorem dX8_plans_47 : decode cX8_plans 47 = .ok (.aload_n 0, 1) := by decide +kernel
theorem dX8_plans_48 : decode cX8_plans 48 = .ok (.getfield 26, 3) := by decide +kernel
theorem dX8_plans_51 : decode cX8_plans 51 = .ok (.iload_n 1, 1) := by decide +kernel
theorem dX8_plans_52 : decode cX8_plans 52 = .ok (.iconst (-1), 1) := by decide +kernel
theorem dX8_plans_53 : decode cX8_plans 53 = .ok (.iastore, 1) := by decide +kernel
theorem dX8_plans_54 : decode cX8_plans 54 = .ok (.iinc 1 1, 3) := by decide +kernel
theorem dX8_plans_57 : decode cX8_plans 57 = .ok (.goto (-16), 3) := by decide +kernel
theorem dX8_plans_60 : decode cX8_plans 60 = .ok (.aload_n 0, 1) := by decide +kernel
theorem dX8_plans_61 : decode cX8_plans 61 = .ok (.invokevirtual 77, 3) := by decide +kernel
theorem dX8_plans_64 : decode cX8_plans 64 = .ok (.ifCond .ne 5, 3) := by decide +kernel
theorem dX8_plans_67 : decode cX8_plans 67 = .ok (.iconst 0, 1) := by decide +kernel
theorem dX8_plans_68 : decode cX8_plans 68 = .ok (.ireturn, 1) := by decide +kernel
theorem dX8_plans_69 : decode cX8_plans 69 = .ok (.iconst 0, 1) := by decide +kernel
theorem dX8_plans_70 : decode cX8_plans 70 = .ok (.istore_n 1, 1) := by decide +kernel
theorem dX8_plans_71 : decode cX8_plans 71 = .ok (.iload_n 1, 1) := by decide +kernel
theorem dX8_plans_72 : decode cX8_plans 72 = .ok (.aload_n 0, 1) := by decide +kernel
theorem dX8_plans_73 : decode cX8_plans 73 = .ok (.getfield 7, 3) := by decide +kernel
theorem dX8_plans_76 : decode cX8_plans 76 = .ok (.iconst 1, 1) := by decide +kernel
theorem dX8_plans_77 : decode cX8_plans 77 = .ok (.iaload, 1) := by decide +kernel
theorem dX8_plans_78 : decode cX8_plans 78 = .ok (.if_icmp .ge 166, 3) := by decide +kernel
theorem dX8_plans_81 : decode cX8_plans 81 = .ok (.iconst (-1), 1) := by decide +kernel
theorem dX8_plans_82 : decode cX8_plans 82 = .ok (.istore_n 2, 1) := by decide +kernel
theorem dX8_plans_83 : decode cX8_plans 83 = .ok (.iconst 0, 1) := by decide +kernel
theorem dX8_plans_84 : decode cX8_plans 84 = .ok (.istore_n 3, 1) := by decide +kernel
theorem dX8_plans_85 : decode cX8_plans 85 = .ok (.iload_n 3, 1) := by decide +kernel
theorem dX8_plans_86 : decode cX8_plans 86 = .ok (.aload_n 0, 1) := by decide +kernel
theorem dX8_plans_87 : decode cX8_plans 87 = .ok (.getfield 7, 3) := by decide +kernel
theorem dX8_plans_90 : decode cX8_plans 90 = .ok (.iconst 1, 1) := by decide +kernel
theorem dX8_plans_91 : decode cX8_plans 91 = .ok (.iaload, 1) := by decide +kernel
theorem dX8_plans_92 : decode cX8_plans 92 = .ok (.if_icmp .ge 61, 3) := by decide +kernel
theorem dX8_plans_95 : decode cX8_plans 95 = .ok (.aload_n 0, 1) := by decide +kernel
theorem dX8_plans_96 : decode cX8_plans 96 = .ok (.iload_n 3, 1) := by decide +kernel
theorem dX8_plans_97 : decode cX8_plans 97 = .ok (.invokevirtual 93, 3) := by decide +kernel
theorem dX8_plans_100 : decode cX8_plans 100 = .ok (.ifCond .ne 33, 3) := by decide +kernel
theorem dX8_plans_103 : decode cX8_plans 103 = .ok (.aload_n 0, 1) := by decide +kernel
theorem dX8_plans_104 : decode cX8_plans 104 = .ok (.getfield 26, 3) := by decide +kernel
theorem dX8_plans_107 : decode cX8_plans 107 = .ok (.iload_n 3, 1) := by decide +kernel
theorem dX8_plans_108 : decode cX8_plans 108 = .ok (.iaload, 1) := by decide +kernel
theorem dX8_plans_109 : decode cX8_plans 109 = .ok (.ifCond .ge 24, 3) := by decide +kernel
theorem dX8_plans_112 : decode cX8_plans 112 = .ok (.iload_n 2, 1) := by decide +kernel
theorem dX8_plans_113 : decode cX8_plans 113 = .ok (.ifCond .lt 16, 3) := by decide +kernel
theorem dX8_plans_116 : decode cX8_plans 116 = .ok (.aload_n 0, 1) := by decide +kernel
theorem dX8_plans_117 : decode cX8_plans 117 = .ok (.iload_n 3, 1) := by decide +kernel
theorem dX8_plans_118 : decode cX8_plans 118 = .ok (.invokevirtual 99, 3) := by decide +kernel
theorem dX8_plans_121 : decode cX8_plans 121 = .ok (.aload_n 0, 1) := by decide +kernel
theorem dX8_plans_122 : decode cX8_plans 122 = .ok (.iload_n 2, 1) := by decide +kernel
theorem dX8_plans_123 : decode cX8_plans 123 = .ok (.invokevirtual 99, 3) := by decide +kernel
theorem dX8_plans_126 : decode cX8_plans 126 = .ok (.if_icmp .le 7, 3) := by decide +kernel
theorem dX8_plans_129 : decode cX8_plans 129 = .ok (.iconst 1, 1) := by decide +kernel
theorem dX8_plans_130 : decode cX8_plans 130 = .ok (.goto 4, 3) := by decide +kernel
theorem dX8_plans_133 : decode cX8_plans 133 = .ok (.iconst 0, 1) := by decide +kernel
theorem dX8_plans_134 : decode cX8_plans 134 = .ok (.istore 4, 2) := by decide +kernel
theorem dX8_plans_136 : decode cX8_plans 136 = .ok (.iload 4, 2) := by decide +kernel
theorem dX8_plans_138 : decode cX8_plans 138 = .ok (.ifCond .eq 7, 3) := by decide +kernel
theorem dX8_plans_141 : decode cX8_plans 141 = .ok (.iload_n 3, 1) := by decide +kernel
theorem dX8_plans_142 : decode cX8_plans 142 = .ok (.goto 4, 3) := by decide +kernel
theorem dX8_plans_145 : decode cX8_plans 145 = .ok (.iload_n 2, 1) := by decide +kernel
theorem dX8_plans_146 : decode cX8_plans 146 = .ok (.istore_n 2, 1) := by decide +kernel
theorem dX8_plans_147 : decode cX8_plans 147 = .ok (.iinc 3 1, 3) := by decide +kernel
theorem dX8_plans_150 : decode cX8_plans 150 = .ok (.goto (-65), 3) := by decide +kernel
theorem dX8_plans_153 : decode cX8_plans 153 = .ok (.iload_n 2, 1) := by decide +kernel
theorem dX8_plans_154 : decode cX8_plans 154 = .ok (.ifCond .lt 84, 3) := by decide +kernel
theorem dX8_plans_157 : decode cX8_plans 157 = .ok (.iconst (-1), 1) := by decide +kernel
theorem dX8_plans_158 : decode cX8_plans 158 = .ok (.istore_n 3, 1) := by decide +kernel
theorem dX8_plans_159 : decode cX8_plans 159 = .ok (.iconst 0, 1) := by decide +kernel
theorem dX8_plans_160 : decode cX8_plans 160 = .ok (.istore 4, 2) := by decide +kernel
theorem dX8_plans_162 : decode cX8_plans 162 = .ok (.iload 4, 2) := by decide +kernel
theorem dX8_plans_164 : decode cX8_plans 164 = .ok (.aload_n 0, 1) := by decide +kernel
theorem dX8_plans_165 : decode cX8_plans 165 = .ok (.getfield 7, 3) := by decide +kernel
theorem dX8_plans_168 : decode cX8_plans 168 = .ok (.iconst 0, 1) := by decide +kernel
theorem dX8_plans_169 : decode cX8_plans 169 = .ok (.iaload, 1) := by decide +kernel
theorem dX8_plans_170 : decode cX8_plans 170 = .ok (.if_icmp .ge 47, 3) := by decide +kernel
theorem dX8_plans_173 : decode cX8_plans 173 = .ok (.aload_n 0, 1) := by decide +kernel
theorem dX8_plans_174 : decode cX8_plans 174 = .ok (.iload 4, 2) := by decide +kernel
theorem dX8_plans_176 : decode cX8_plans 176 = .ok (.bipush 6, 2) := by decide +kernel
theorem dX8_plans_178 : decode cX8_plans 178 = .ok (.invokevirtual 61, 3) := by decide +kernel
theorem dX8_plans_181 : decode cX8_plans 181 = .ok (.ifCond .ne 28, 3) := by decide +kernel
theorem dX8_plans_184 : decode cX8_plans 184 = .ok (.iload_n 3, 1) := by decide +kernel
theorem dX8_plans_185 : decode cX8_plans 185 = .ok (.ifCond .lt 19, 3) := by decide +kernel
theorem dX8_plans_188 : decode cX8_plans 188 = .ok (.aload_n 0, 1) := by decide +kernel
theorem dX8_plans_189 : decode cX8_plans 189 = .ok (.getfield 29, 3) := by decide +kernel
theorem dX8_plans_192 : decode cX8_plans 192 = .ok (.iload 4, 2) := by decide +kernel
theorem dX8_plans_194 : decode cX8_plans 194 = .ok (.iaload, 1) := by decide +kernel
theorem dX8_plans_195 : decode cX8_plans 195 = .ok (.aload_n 0, 1) := by decide +kernel
theorem dX8_plans_196 : decode cX8_plans 196 = .ok (.getfield 29, 3) := by decide +kernel
theorem dX8_plans_199 : decode cX8_plans 199 = .ok (.iload_n 3, 1) := by decide +kernel
theorem dX8_plans_200 : decode cX8_plans 200 = .ok (.iaload, 1) := by decide +kernel
theorem dX8_plans_201 : decode cX8_plans 201 = .ok (.if_icmp .ge 8, 3) := by decide +kernel
theorem dX8_plans_204 : decode cX8_plans 204 = .ok (.iload 4, 2) := by decide +kernel
theorem dX8_plans_206 : decode cX8_plans 206 = .ok (.goto 4, 3) := by decide +kernel
theorem dX8_plans_209 : decode cX8_plans 209 = .ok (.iload_n 3, 1) := by decide +kernel
theorem dX8_plans_210 : decode cX8_plans 210 = .ok (.istore_n 3, 1) := by decide +kernel
theorem dX8_plans_211 : decode cX8_plans 211 = .ok (.iinc 4 1, 3) := by decide +kernel
theorem dX8_plans_214 : decode cX8_plans 214 = .ok (.goto (-52), 3) := by decide +kernel
theorem dX8_plans_217 : decode cX8_plans 217 = .ok (.aload_n 0, 1) := by decide +kernel
theorem dX8_plans_218 : decode cX8_plans 218 = .ok (.getfield 26, 3) := by decide +kernel
theorem dX8_plans_221 : decode cX8_plans 221 = .ok (.iload_n 2, 1) := by decide +kernel
theorem dX8_plans_222 : decode cX8_plans 222 = .ok (.iload_n 3, 1) := by decide +kernel
theorem dX8_plans_223 : decode cX8_plans 223 = .ok (.iastore, 1) := by decide +kernel
theorem dX8_plans_224 : decode cX8_plans 224 = .ok (.aload_n 0, 1) := by decide +kernel
theorem dX8_plans_225 : decode cX8_plans 225 = .ok (.getfield 29, 3) := by decide +kernel
theorem dX8_plans_228 : decode cX8_plans 228 = .ok (.iload_n 3, 1) := by decide +kernel
theorem dX8_plans_229 : decode cX8_plans 229 = .ok (.dup2, 1) := by decide +kernel
theorem dX8_plans_230 : decode cX8_plans 230 = .ok (.iaload, 1) := by decide +kernel
theorem dX8_plans_231 : decode cX8_plans 231 = .ok (.aload_n 0, 1) := by decide +kernel
theorem dX8_plans_232 : decode cX8_plans 232 = .ok (.iload_n 2, 1) := by decide +kernel
theorem dX8_plans_233 : decode cX8_plans 233 = .ok (.invokevirtual 99, 3) := by decide +kernel
theorem dX8_plans_236 : decode cX8_plans 236 = .ok (.iadd, 1) := by decide +kernel
theorem dX8_plans_237 : decode cX8_plans 237 = .ok (.iastore, 1) := by decide +kernel
theorem dX8_plans_238 : decode cX8_plans 238 = .ok (.iinc 1 1, 3) := by decide +kernel
theorem dX8_plans_241 : decode cX8_plans 241 = .ok (.goto (-170), 3) := by decide +kernel
theorem dX8_plans_244 : decode cX8_plans 244 = .ok (.iconst 1, 1) := by decide +kernel
theorem dX8_plans_245 : decode cX8_plans 245 = .ok (.ireturn, 1) := by decide +kernel
theorem dX8_fair_0 : decode cX8_fair 0 = .ok (.aload_n 0, 1) := by decide +kernel
theorem dX8_fair_1 : decode cX8_fair 1 = .ok (.iload_n 1, 1) := by decide +kernel
theorem dX8_fair_2 : decode cX8_fair 2 = .ok (.invokevirtual 96, 3) := by decide +kernel
theorem dX8_fair_5 : decode cX8_fair 5 = .ok (.ifCond .ne 6, 3) := by decide +kernel
theorem dX8_fair_8 : decode cX8_fair 8 = .ok (.ldc 49, 2) := by decide +kernel
theorem dX8_fair_10 : decode cX8_fair 10 = .ok (.ireturn, 1) := by decide +kernel
theorem dX8_fair_11 : decode cX8_fair 11 = .ok (.aload_n 0, 1) := by decide +kernel
theorem dX8_fair_12 : decode cX8_fair 12 = .ok (.iload_n 1, 1) := by decide +kernel
theorem dX8_fair_13 : decode cX8_fair 13 = .ok (.invokevirtual 93, 3) := by decide +kernel
theorem dX8_fair_16 : decode cX8_fair 16 = .ok (.ifCond .eq 6, 3) := by decide +kernel
theorem dX8_fair_19 : decode cX8_fair 19 = .ok (.ldc 64, 2) := by decide +kernel
theorem dX8_fair_21 : decode cX8_fair 21 = .ok (.ireturn, 1) := by decide +kernel
theorem dX8_fair_22 : decode cX8_fair 22 = .ok (.aload_n 0, 1) := by decide +kernel
theorem dX8_fair_23 : decode cX8_fair 23 = .ok (.invokevirtual 167, 3) := by decide +kernel
theorem dX8_fair_26 : decode cX8_fair 26 = .ok (.ifCond .eq 12, 3) := by decide +kernel
theorem dX8_fair_29 : decode cX8_fair 29 = .ok (.aload_n 0, 1) := by decide +kernel
theorem dX8_fair_30 : decode cX8_fair 30 = .ok (.getfield 26, 3) := by decide +kernel
theorem dX8_fair_33 : decode cX8_fair 33 = .ok (.iload_n 1, 1) := by decide +kernel
theorem dX8_fair_34 : decode cX8_fair 34 = .ok (.iaload, 1) := by decide +kernel
theorem dX8_fair_35 : decode cX8_fair 35 = .ok (.goto 5, 3) := by decide +kernel
theorem dX8_fair_38 : decode cX8_fair 38 = .ok (.ldc 102, 2) := by decide +kernel
theorem dX8_fair_40 : decode cX8_fair 40 = .ok (.ireturn, 1) := by decide +kernel
theorem dX8_fairSpread_0 : decode cX8_fairSpread 0 = .ok (.aload_n 0, 1) := by decide +kernel
theorem dX8_fairSpread_1 : decode cX8_fairSpread 1 = .ok (.invokevirtual 167, 3) := by decide +kernel
theorem dX8_fairSpread_4 : decode cX8_fairSpread 4 = .ok (.ifCond .ne 6, 3) := by decide +kernel
theorem dX8_fairSpread_7 : decode cX8_fairSpread 7 = .ok (.ldc 102, 2) := by decide +kernel
theorem dX8_fairSpread_9 : decode cX8_fairSpread 9 = .ok (.ireturn, 1) := by decide +kernel
theorem dX8_fairSpread_10 : decode cX8_fairSpread 10 = .ok (.iconst (-1), 1) := by decide +kernel
theorem dX8_fairSpread_11 : decode cX8_fairSpread 11 = .ok (.istore_n 1, 1) := by decide +kernel
theorem dX8_fairSpread_12 : decode cX8_fairSpread 12 = .ok (.iconst (-1), 1) := by decide +kernel
theorem dX8_fairSpread_13 : decode cX8_fairSpread 13 = .ok (.istore_n 2, 1) := by decide +kernel
theorem dX8_fairSpread_14 : decode cX8_fairSpread 14 = .ok (.iconst 0, 1) := by decide +kernel
theorem dX8_fairSpread_15 : decode cX8_fairSpread 15 = .ok (.istore_n 3, 1) := by decide +kernel
theorem dX8_fairSpread_16 : decode cX8_fairSpread 16 = .ok (.iload_n 3, 1) := by decide +kernel
theorem dX8_fairSpread_17 : decode cX8_fairSpread 17 = .ok (.aload_n 0, 1) := by decide +kernel
theorem dX8_fairSpread_18 : decode cX8_fairSpread 18 = .ok (.getfield 7, 3) := by decide +kernel
theorem dX8_fairSpread_21 : decode cX8_fairSpread 21 = .ok (.iconst 0, 1) := by decide +kernel
theorem dX8_fairSpread_22 : decode cX8_fairSpread 22 = .ok (.iaload, 1) := by decide +kernel
theorem dX8_fairSpread_23 : decode cX8_fairSpread 23 = .ok (.if_icmp .ge 65, 3) := by decide +kernel
theorem dX8_fairSpread_26 : decode cX8_fairSpread 26 = .ok (.aload_n 0, 1) := by decide +kernel
theorem dX8_fairSpread_27 : decode cX8_fairSpread 27 = .ok (.iload_n 3, 1) := by decide +kernel
theorem dX8_fairSpread_28 : decode cX8_fairSpread 28 = .ok (.bipush 6, 2) := by decide +kernel
theorem dX8_fairSpread_30 : decode cX8_fairSpread 30 = .ok (.invokevirtual 61, 3) := by decide +kernel
theorem dX8_fairSpread_33 : decode cX8_fairSpread 33 = .ok (.ifCond .ne 49, 3) := by decide +kernel
theorem dX8_fairSpread_36 : decode cX8_fairSpread 36 = .ok (.aload_n 0, 1) := by decide +kernel
theorem dX8_fairSpread_37 : decode cX8_fairSpread 37 = .ok (.getfield 29, 3) := by decide +kernel
theorem dX8_fairSpread_40 : decode cX8_fairSpread 40 = .ok (.iload_n 3, 1) := by decide +kernel
theorem dX8_fairSpread_41 : decode cX8_fairSpread 41 = .ok (.iaload, 1) := by decide +kernel
theorem dX8_fairSpread_42 : decode cX8_fairSpread 42 = .ok (.iload_n 1, 1) := by decide +kernel
theorem dX8_fairSpread_43 : decode cX8_fairSpread 43 = .ok (.if_icmp .le 12, 3) := by decide +kernel
theorem dX8_fairSpread_46 : decode cX8_fairSpread 46 = .ok (.aload_n 0, 1) := by decide +kernel
theorem dX8_fairSpread_47 : decode cX8_fairSpread 47 = .ok (.getfield 29, 3) := by decide +kernel
theorem dX8_fairSpread_50 : decode cX8_fairSpread 50 = .ok (.iload_n 3, 1) := by decide +kernel
theorem dX8_fairSpread_51 : decode cX8_fairSpread 51 = .ok (.iaload, 1) := by decide +kernel
theorem dX8_fairSpread_52 : decode cX8_fairSpread 52 = .ok (.goto 4, 3) := by decide +kernel
theorem dX8_fairSpread_55 : decode cX8_fairSpread 55 = .ok (.iload_n 1, 1) := by decide +kernel
theorem dX8_fairSpread_56 : decode cX8_fairSpread 56 = .ok (.istore_n 1, 1) := by decide +kernel
theorem dX8_fairSpread_57 : decode cX8_fairSpread 57 = .ok (.iload_n 2, 1) := by decide +kernel
theorem dX8_fairSpread_58 : decode cX8_fairSpread 58 = .ok (.ifCond .lt 13, 3) := by decide +kernel
theorem dX8_fairSpread_61 : decode cX8_fairSpread 61 = .ok (.aload_n 0, 1) := by decide +kernel
theorem dX8_fairSpread_62 : decode cX8_fairSpread 62 = .ok (.getfield 29, 3) := by decide +kernel
theorem dX8_fairSpread_65 : decode cX8_fairSpread 65 = .ok (.iload_n 3, 1) := by decide +kernel
theorem dX8_fairSpread_66 : decode cX8_fairSpread 66 = .ok (.iaload, 1) := by decide +kernel
theorem dX8_fairSpread_67 : decode cX8_fairSpread 67 = .ok (.iload_n 2, 1) := by decide +kernel
theorem dX8_fairSpread_68 : decode cX8_fairSpread 68 = .ok (.if_icmp .ge 12, 3) := by decide +kernel
theorem dX8_fairSpread_71 : decode cX8_fairSpread 71 = .ok (.aload_n 0, 1) := by decide +kernel
theorem dX8_fairSpread_72 : decode cX8_fairSpread 72 = .ok (.getfield 29, 3) := by decide +kernel
theorem dX8_fairSpread_75 : decode cX8_fairSpread 75 = .ok (.iload_n 3, 1) := by decide +kernel
theorem dX8_fairSpread_76 : decode cX8_fairSpread 76 = .ok (.iaload, 1) := by decide +kernel
theorem dX8_fairSpread_77 : decode cX8_fairSpread 77 = .ok (.goto 4, 3) := by decide +kernel
theorem dX8_fairSpread_80 : decode cX8_fairSpread 80 = .ok (.iload_n 2, 1) := by decide +kernel
theorem dX8_fairSpread_81 : decode cX8_fairSpread 81 = .ok (.istore_n 2, 1) := by decide +kernel
theorem dX8_fairSpread_82 : decode cX8_fairSpread 82 = .ok (.iinc 3 1, 3) := by decide +kernel
theorem dX8_fairSpread_85 : decode cX8_fairSpread 85 = .ok (.goto (-69), 3) := by decide +kernel
theorem dX8_fairSpread_88 : decode cX8_fairSpread 88 = .ok (.iload_n 1, 1) := by decide +kernel
theorem dX8_fairSpread_89 : decode cX8_fairSpread 89 = .ok (.iload_n 2, 1) := by decide +kernel
theorem dX8_fairSpread_90 : decode cX8_fairSpread 90 = .ok (.isub, 1) := by decide +kernel
theorem dX8_fairSpread_91 : decode cX8_fairSpread 91 = .ok (.ireturn, 1) := by decide +kernel
theorem dX8_tours_0 : decode cX8_tours 0 = .ok (.aload_n 0, 1) := by decide +kernel
theorem dX8_tours_1 : decode cX8_tours 1 = .ok (.invokevirtual 167, 3) := by decide +kernel
theorem dX8_tours_4 : decode cX8_tours 4 = .ok (.pop, 1) := by decide +kernel
theorem dX8_tours_5 : decode cX8_tours 5 = .ok (.aload_n 0, 1) := by decide +kernel
theorem dX8_tours_6 : decode cX8_tours 6 = .ok (.getfield 7, 3) := by decide +kernel
theorem dX8_tours_9 : decode cX8_tours 9 = .ok (.bipush 9, 2) := by decide +kernel
theorem dX8_tours_11 : decode cX8_tours 11 = .ok (.iaload, 1) := by decide +kernel
theorem dX8_tours_12 : decode cX8_tours 12 = .ok (.istore_n 1, 1) := by decide +kernel
theorem dX8_tours_13 : decode cX8_tours 13 = .ok (.aload_n 0, 1) := by decide +kernel
theorem dX8_tours_14 : decode cX8_tours 14 = .ok (.getfield 7, 3) := by decide +kernel
theorem dX8_tours_17 : decode cX8_tours 17 = .ok (.bipush 10, 2) := by decide +kernel
theorem dX8_tours_19 : decode cX8_tours 19 = .ok (.iaload, 1) := by decide +kernel
theorem dX8_tours_20 : decode cX8_tours 20 = .ok (.istore_n 2, 1) := by decide +kernel
theorem dX8_tours_21 : decode cX8_tours 21 = .ok (.iconst 0, 1) := by decide +kernel
theorem dX8_tours_22 : decode cX8_tours 22 = .ok (.istore_n 3, 1) := by decide +kernel
theorem dX8_tours_23 : decode cX8_tours 23 = .ok (.iconst 0, 1) := by decide +kernel
theorem dX8_tours_24 : decode cX8_tours 24 = .ok (.istore 4, 2) := by decide +kernel
theorem dX8_tours_26 : decode cX8_tours 26 = .ok (.iconst 0, 1) := by decide +kernel
theorem dX8_tours_27 : decode cX8_tours 27 = .ok (.istore 5, 2) := by decide +kernel
theorem dX8_tours_29 : decode cX8_tours 29 = .ok (.iconst 1, 1) := by decide +kernel
theorem dX8_tours_30 : decode cX8_tours 30 = .ok (.istore 6, 2) := by decide +kernel
theorem dX8_tours_32 : decode cX8_tours 32 = .ok (.iload 6, 2) := by decide +kernel
theorem dX8_tours_34 : decode cX8_tours 34 = .ok (.ifCond .eq 243, 3) := by decide +kernel
theorem dX8_tours_37 : decode cX8_tours 37 = .ok (.iconst (-1), 1) := by decide +kernel
theorem dX8_tours_38 : decode cX8_tours 38 = .ok (.istore 7, 2) := by decide +kernel
theorem dX8_tours_40 : decode cX8_tours 40 = .ok (.iconst 0, 1) := by decide +kernel
theorem dX8_tours_41 : decode cX8_tours 41 = .ok (.istore 8, 2) := by decide +kernel
theorem dX8_tours_43 : decode cX8_tours 43 = .ok (.sipush 999, 3) := by decide +kernel
theorem dX8_tours_46 : decode cX8_tours 46 = .ok (.istore 9, 2) := by decide +kernel
theorem dX8_tours_48 : decode cX8_tours 48 = .ok (.iconst 0, 1) := by decide +kernel
theorem dX8_tours_49 : decode cX8_tours 49 = .ok (.istore 10, 2) := by decide +kernel
theorem dX8_tours_51 : decode cX8_tours 51 = .ok (.iload 10, 2) := by decide +kernel
theorem dX8_tours_53 : decode cX8_tours 53 = .ok (.iconst 2, 1) := by decide +kernel
theorem dX8_tours_54 : decode cX8_tours 54 = .ok (.aload_n 0, 1) := by decide +kernel
theorem dX8_tours_55 : decode cX8_tours 55 = .ok (.getfield 7, 3) := by decide +kernel
theorem dX8_tours_58 : decode cX8_tours 58 = .ok (.iconst 1, 1) := by decide +kernel
theorem dX8_tours_59 : decode cX8_tours 59 = .ok (.iaload, 1) := by decide +kernel
theorem dX8_tours_60 : decode cX8_tours 60 = .ok (.imul, 1) := by decide +kernel
theorem dX8_tours_61 : decode cX8_tours 61 = .ok (.if_icmp .ge 120, 3) := by decide +kernel
theorem dX8_tours_64 : decode cX8_tours 64 = .ok (.iload 10, 2) := by decide +kernel
theorem dX8_tours_66 : decode cX8_tours 66 = .ok (.iconst 2, 1) := by decide +kernel
theorem dX8_tours_67 : decode cX8_tours 67 = .ok (.idiv, 1) := by decide +kernel
theorem dX8_tours_68 : decode cX8_tours 68 = .ok (.istore 11, 2) := by decide +kernel
theorem dX8_tours_70 : decode cX8_tours 70 = .ok (.aload_n 0, 1) := by decide +kernel
theorem dX8_tours_71 : decode cX8_tours 71 = .ok (.getfield 26, 3) := by decide +kernel
theorem dX8_tours_74 : decode cX8_tours 74 = .ok (.iload 11, 2) := by decide +kernel
theorem dX8_tours_76 : decode cX8_tours 76 = .ok (.iaload, 1) := by decide +kernel
theorem dX8_tours_77 : decode cX8_tours 77 = .ok (.aload_n 0, 1) := by decide +kernel
theorem dX8_tours_78 : decode cX8_tours 78 = .ok (.getfield 7, 3) := by decide +kernel
theorem dX8_tours_81 : decode cX8_tours 81 = .ok (.bipush 8, 2) := by decide +kernel
theorem dX8_tours_83 : decode cX8_tours 83 = .ok (.iaload, 1) := by decide +kernel
theorem dX8_tours_84 : decode cX8_tours 84 = .ok (.if_icmp .ne 34, 3) := by decide +kernel
theorem dX8_tours_87 : decode cX8_tours 87 = .ok (.iload 5, 2) := by decide +kernel
theorem dX8_tours_89 : decode cX8_tours 89 = .ok (.iload 11, 2) := by decide +kernel
theorem dX8_tours_91 : decode cX8_tours 91 = .ok (.ishr, 1) := by decide +kernel
theorem dX8_tours_92 : decode cX8_tours 92 = .ok (.iconst 1, 1) := by decide +kernel
theorem dX8_tours_93 : decode cX8_tours 93 = .ok (.iand, 1) := by decide +kernel
theorem dX8_tours_94 : decode cX8_tours 94 = .ok (.ifCond .ne 24, 3) := by decide +kernel
theorem dX8_tours_97 : decode cX8_tours 97 = .ok (.aload_n 0, 1) := by decide +kernel
theorem dX8_tours_98 : decode cX8_tours 98 = .ok (.iload_n 1, 1) := by decide +kernel
theorem dX8_tours_99 : decode cX8_tours 99 = .ok (.iload_n 2, 1) := by decide +kernel
theorem dX8_tours_100 : decode cX8_tours 100 = .ok (.iload 11, 2) := by decide +kernel
theorem dX8_tours_102 : decode cX8_tours 102 = .ok (.iload 10, 2) := by decide +kernel
theorem dX8_tours_104 : decode cX8_tours 104 = .ok (.iconst 2, 1) := by decide +kernel
theorem dX8_tours_105 : decode cX8_tours 105 = .ok (.irem, 1) := by decide +kernel
theorem dX8_tours_106 : decode cX8_tours 106 = .ok (.invokevirtual 128, 3) := by decide +kernel
theorem dX8_tours_109 : decode cX8_tours 109 = .ok (.iload 9, 2) := by decide +kernel
theorem dX8_tours_111 : decode cX8_tours 111 = .ok (.if_icmp .ge 7, 3) := by decide +kernel
theorem dX8_tours_114 : decode cX8_tours 114 = .ok (.iconst 1, 1) := by decide +kernel
theorem dX8_tours_115 : decode cX8_tours 115 = .ok (.goto 4, 3) := by decide +kernel
theorem dX8_tours_118 : decode cX8_tours 118 = .ok (.iconst 0, 1) := by decide +kernel
theorem dX8_tours_119 : decode cX8_tours 119 = .ok (.istore 12, 2) := by decide +kernel
theorem dX8_tours_121 : decode cX8_tours 121 = .ok (.iload 12, 2) := by decide +kernel
theorem dX8_tours_123 : decode cX8_tours 123 = .ok (.ifCond .eq 18, 3) := by decide +kernel
theorem dX8_tours_126 : decode cX8_tours 126 = .ok (.aload_n 0, 1) := by decide +kernel
theorem dX8_tours_127 : decode cX8_tours 127 = .ok (.iload_n 1, 1) := by decide +kernel
theorem dX8_tours_128 : decode cX8_tours 128 = .ok (.iload_n 2, 1) := by decide +kernel
theorem dX8_tours_129 : decode cX8_tours 129 = .ok (.iload 11, 2) := by decide +kernel
theorem dX8_tours_131 : decode cX8_tours 131 = .ok (.iload 10, 2) := by decide +kernel
theorem dX8_tours_133 : decode cX8_tours 133 = .ok (.iconst 2, 1) := by decide +kernel
theorem dX8_tours_134 : decode cX8_tours 134 = .ok (.irem, 1) := by decide +kernel
theorem dX8_tours_135 : decode cX8_tours 135 = .ok (.invokevirtual 128, 3) := by decide +kernel
theorem dX8_tours_138 : decode cX8_tours 138 = .ok (.goto 5, 3) := by decide +kernel
theorem dX8_tours_141 : decode cX8_tours 141 = .ok (.iload 9, 2) := by decide +kernel
theorem dX8_tours_143 : decode cX8_tours 143 = .ok (.istore 9, 2) := by decide +kernel
theorem dX8_tours_145 : decode cX8_tours 145 = .ok (.iload 12, 2) := by decide +kernel
theorem dX8_tours_147 : decode cX8_tours 147 = .ok (.ifCond .eq 10, 3) := by decide +kernel
theorem dX8_tours_150 : decode cX8_tours 150 = .ok (.iload 10, 2) := by decide +kernel
theorem dX8_tours_152 : decode cX8_tours 152 = .ok (.iconst 2, 1) := by decide +kernel
theorem dX8_tours_153 : decode cX8_tours 153 = .ok (.irem, 1) := by decide +kernel
theorem dX8_tours_154 : decode cX8_tours 154 = .ok (.goto 5, 3) := by decide +kernel
theorem dX8_tours_157 : decode cX8_tours 157 = .ok (.iload 8, 2) := by decide +kernel
theorem dX8_tours_159 : decode cX8_tours 159 = .ok (.istore 8, 2) := by decide +kernel
theorem dX8_tours_161 : decode cX8_tours 161 = .ok (.iload 12, 2) := by decide +kernel
theorem dX8_tours_163 : decode cX8_tours 163 = .ok (.ifCond .eq 8, 3) := by decide +kernel
theorem dX8_tours_166 : decode cX8_tours 166 = .ok (.iload 11, 2) := by decide +kernel
theorem dX8_tours_168 : decode cX8_tours 168 = .ok (.goto 5, 3) := by decide +kernel
theorem dX8_tours_171 : decode cX8_tours 171 = .ok (.iload 7, 2) := by decide +kernel
theorem dX8_tours_173 : decode cX8_tours 173 = .ok (.istore 7, 2) := by decide +kernel
theorem dX8_tours_175 : decode cX8_tours 175 = .ok (.iinc 10 1, 3) := by decide +kernel
theorem dX8_tours_178 : decode cX8_tours 178 = .ok (.goto (-127), 3) := by decide +kernel
theorem dX8_tours_181 : decode cX8_tours 181 = .ok (.iload 7, 2) := by decide +kernel
theorem dX8_tours_183 : decode cX8_tours 183 = .ok (.ifCond .lt 7, 3) := by decide +kernel
theorem dX8_tours_186 : decode cX8_tours 186 = .ok (.iconst 1, 1) := by decide +kernel
theorem dX8_tours_187 : decode cX8_tours 187 = .ok (.goto 4, 3) := by decide +kernel
theorem dX8_tours_190 : decode cX8_tours 190 = .ok (.iconst 0, 1) := by decide +kernel
theorem dX8_tours_191 : decode cX8_tours 191 = .ok (.istore 6, 2) := by decide +kernel
theorem dX8_tours_193 : decode cX8_tours 193 = .ok (.iload 6, 2) := by decide +kernel
theorem dX8_tours_195 : decode cX8_tours 195 = .ok (.ifCond .eq 79, 3) := by decide +kernel
theorem dX8_tours_198 : decode cX8_tours 198 = .ok (.iload 5, 2) := by decide +kernel
theorem dX8_tours_200 : decode cX8_tours 200 = .ok (.iconst 1, 1) := by decide +kernel
theorem dX8_tours_201 : decode cX8_tours 201 = .ok (.iload 7, 2) := by decide +kernel
theorem dX8_tours_203 : decode cX8_tours 203 = .ok (.ishl, 1) := by decide +kernel
theorem dX8_tours_204 : decode cX8_tours 204 = .ok (.ior, 1) := by decide +kernel
theorem dX8_tours_205 : decode cX8_tours 205 = .ok (.istore 5, 2) := by decide +kernel
theorem dX8_tours_207 : decode cX8_tours 207 = .ok (.iload 4, 2) := by decide +kernel
theorem dX8_tours_209 : decode cX8_tours 209 = .ok (.iload 9, 2) := by decide +kernel
theorem dX8_tours_211 : decode cX8_tours 211 = .ok (.aload_n 0, 1) := by decide +kernel
theorem dX8_tours_212 : decode cX8_tours 212 = .ok (.iload 7, 2) := by decide +kernel
theorem dX8_tours_214 : decode cX8_tours 214 = .ok (.invokevirtual 99, 3) := by decide +kernel
theorem dX8_tours_217 : decode cX8_tours 217 = .ok (.iadd, 1) := by decide +kernel
theorem dX8_tours_218 : decode cX8_tours 218 = .ok (.iadd, 1) := by decide +kernel
theorem dX8_tours_219 : decode cX8_tours 219 = .ok (.istore 4, 2) := by decide +kernel
theorem dX8_tours_221 : decode cX8_tours 221 = .ok (.aload_n 0, 1) := by decide +kernel
theorem dX8_tours_222 : decode cX8_tours 222 = .ok (.getfield 32, 3) := by decide +kernel
theorem dX8_tours_225 : decode cX8_tours 225 = .ok (.iload_n 3, 1) := by decide +kernel
theorem dX8_tours_226 : decode cX8_tours 226 = .ok (.iload 7, 2) := by decide +kernel
theorem dX8_tours_228 : decode cX8_tours 228 = .ok (.iastore, 1) := by decide +kernel
theorem dX8_tours_229 : decode cX8_tours 229 = .ok (.aload_n 0, 1) := by decide +kernel
theorem dX8_tours_230 : decode cX8_tours 230 = .ok (.getfield 35, 3) := by decide +kernel
theorem dX8_tours_233 : decode cX8_tours 233 = .ok (.iload_n 3, 1) := by decide +kernel
theorem dX8_tours_234 : decode cX8_tours 234 = .ok (.iload 8, 2) := by decide +kernel
theorem dX8_tours_236 : decode cX8_tours 236 = .ok (.iastore, 1) := by decide +kernel
theorem dX8_tours_237 : decode cX8_tours 237 = .ok (.aload_n 0, 1) := by decide +kernel
theorem dX8_tours_238 : decode cX8_tours 238 = .ok (.getfield 38, 3) := by decide +kernel
theorem dX8_tours_241 : decode cX8_tours 241 = .ok (.iload_n 3, 1) := by decide +kernel
theorem dX8_tours_242 : decode cX8_tours 242 = .ok (.iload 4, 2) := by decide +kernel
theorem dX8_tours_244 : decode cX8_tours 244 = .ok (.iastore, 1) := by decide +kernel
theorem dX8_tours_245 : decode cX8_tours 245 = .ok (.iinc 3 1, 3) := by decide +kernel
theorem dX8_tours_248 : decode cX8_tours 248 = .ok (.aload_n 0, 1) := by decide +kernel
theorem dX8_tours_249 : decode cX8_tours 249 = .ok (.iload 7, 2) := by decide +kernel
theorem dX8_tours_251 : decode cX8_tours 251 = .ok (.iconst 2, 1) := by decide +kernel
theorem dX8_tours_252 : decode cX8_tours 252 = .ok (.iconst 2, 1) := by decide +kernel
theorem dX8_tours_253 : decode cX8_tours 253 = .ok (.iload 8, 2) := by decide +kernel
theorem dX8_tours_255 : decode cX8_tours 255 = .ok (.imul, 1) := by decide +kernel
theorem dX8_tours_256 : decode cX8_tours 256 = .ok (.isub, 1) := by decide +kernel
theorem dX8_tours_257 : decode cX8_tours 257 = .ok (.invokevirtual 45, 3) := by decide +kernel
theorem dX8_tours_260 : decode cX8_tours 260 = .ok (.istore_n 1, 1) := by decide +kernel
theorem dX8_tours_261 : decode cX8_tours 261 = .ok (.aload_n 0, 1) := by decide +kernel
theorem dX8_tours_262 : decode cX8_tours 262 = .ok (.iload 7, 2) := by decide +kernel
theorem dX8_tours_264 : decode cX8_tours 264 = .ok (.iconst 3, 1) := by decide +kernel
theorem dX8_tours_265 : decode cX8_tours 265 = .ok (.iconst 2, 1) := by decide +kernel
theorem dX8_tours_266 : decode cX8_tours 266 = .ok (.iload 8, 2) := by decide +kernel
theorem dX8_tours_268 : decode cX8_tours 268 = .ok (.imul, 1) := by decide +kernel
theorem dX8_tours_269 : decode cX8_tours 269 = .ok (.isub, 1) := by decide +kernel
theorem dX8_tours_270 : decode cX8_tours 270 = .ok (.invokevirtual 45, 3) := by decide +kernel
theorem dX8_tours_273 : decode cX8_tours 273 = .ok (.istore_n 2, 1) := by decide +kernel
theorem dX8_tours_274 : decode cX8_tours 274 = .ok (.goto (-242), 3) := by decide +kernel
theorem dX8_tours_277 : decode cX8_tours 277 = .ok (.iload_n 3, 1) := by decide +kernel
theorem dX8_tours_278 : decode cX8_tours 278 = .ok (.ireturn, 1) := by decide +kernel
theorem dX8_tour_0 : decode cX8_tour 0 = .ok (.iload_n 1, 1) := by decide +kernel
theorem dX8_tour_1 : decode cX8_tour 1 = .ok (.ifCond .lt 12, 3) := by decide +kernel
theorem dX8_tour_4 : decode cX8_tour 4 = .ok (.iload_n 2, 1) := by decide +kernel
theorem dX8_tour_5 : decode cX8_tour 5 = .ok (.iconst 0, 1) := by decide +kernel
theorem dX8_tour_6 : decode cX8_tour 6 = .ok (.iconst 2, 1) := by decide +kernel
theorem dX8_tour_7 : decode cX8_tour 7 = .ok (.invokestatic 41, 3) := by decide +kernel
theorem dX8_tour_10 : decode cX8_tour 10 = .ok (.ifCond .ne 6, 3) := by decide +kernel
theorem dX8_tour_13 : decode cX8_tour 13 = .ok (.ldc 49, 2) := by decide +kernel
theorem dX8_tour_15 : decode cX8_tour 15 = .ok (.ireturn, 1) := by decide +kernel
theorem dX8_tour_16 : decode cX8_tour 16 = .ok (.aload_n 0, 1) := by decide +kernel
theorem dX8_tour_17 : decode cX8_tour 17 = .ok (.getfield 7, 3) := by decide +kernel
theorem dX8_tour_20 : decode cX8_tour 20 = .ok (.bipush 8, 2) := by decide +kernel
theorem dX8_tour_22 : decode cX8_tour 22 = .ok (.iaload, 1) := by decide +kernel
theorem dX8_tour_23 : decode cX8_tour 23 = .ok (.ifCond .ge 6, 3) := by decide +kernel
theorem dX8_tour_26 : decode cX8_tour 26 = .ok (.ldc 64, 2) := by decide +kernel
theorem dX8_tour_28 : decode cX8_tour 28 = .ok (.ireturn, 1) := by decide +kernel
theorem dX8_tour_29 : decode cX8_tour 29 = .ok (.iload_n 1, 1) := by decide +kernel
theorem dX8_tour_30 : decode cX8_tour 30 = .ok (.aload_n 0, 1) := by decide +kernel
theorem dX8_tour_31 : decode cX8_tour 31 = .ok (.invokevirtual 171, 3) := by decide +kernel
theorem dX8_tour_34 : decode cX8_tour 34 = .ok (.if_icmp .lt 6, 3) := by decide +kernel
theorem dX8_tour_37 : decode cX8_tour 37 = .ok (.ldc 102, 2) := by decide +kernel
theorem dX8_tour_39 : decode cX8_tour 39 = .ok (.ireturn, 1) := by decide +kernel
theorem dX8_tour_40 : decode cX8_tour 40 = .ok (.iload_n 2, 1) := by decide +kernel
theorem dX8_tour_41 : decode cX8_tour 41 = .ok (.ifCond .ne 12, 3) := by decide +kernel
theorem dX8_tour_44 : decode cX8_tour 44 = .ok (.aload_n 0, 1) := by decide +kernel
theorem dX8_tour_45 : decode cX8_tour 45 = .ok (.getfield 32, 3) := by decide +kernel
theorem dX8_tour_48 : decode cX8_tour 48 = .ok (.iload_n 1, 1) := by decide +kernel
theorem dX8_tour_49 : decode cX8_tour 49 = .ok (.iaload, 1) := by decide +kernel
theorem dX8_tour_50 : decode cX8_tour 50 = .ok (.goto 23, 3) := by decide +kernel
theorem dX8_tour_53 : decode cX8_tour 53 = .ok (.iload_n 2, 1) := by decide +kernel
theorem dX8_tour_54 : decode cX8_tour 54 = .ok (.iconst 1, 1) := by decide +kernel
theorem dX8_tour_55 : decode cX8_tour 55 = .ok (.if_icmp .ne 12, 3) := by decide +kernel
theorem dX8_tour_58 : decode cX8_tour 58 = .ok (.aload_n 0, 1) := by decide +kernel
theorem dX8_tour_59 : decode cX8_tour 59 = .ok (.getfield 35, 3) := by decide +kernel
theorem dX8_tour_62 : decode cX8_tour 62 = .ok (.iload_n 1, 1) := by decide +kernel
theorem dX8_tour_63 : decode cX8_tour 63 = .ok (.iaload, 1) := by decide +kernel
theorem dX8_tour_64 : decode cX8_tour 64 = .ok (.goto 9, 3) := by decide +kernel
theorem dX8_tour_67 : decode cX8_tour 67 = .ok (.aload_n 0, 1) := by decide +kernel
theorem dX8_tour_68 : decode cX8_tour 68 = .ok (.getfield 38, 3) := by decide +kernel
theorem dX8_tour_71 : decode cX8_tour 71 = .ok (.iload_n 1, 1) := by decide +kernel
theorem dX8_tour_72 : decode cX8_tour 72 = .ok (.iaload, 1) := by decide +kernel
theorem dX8_tour_73 : decode cX8_tour 73 = .ok (.ireturn, 1) := by decide +kernel
theorem dX8_count_0 : decode cX8_count 0 = .ok (.iconst 0, 1) := by decide +kernel
theorem dX8_count_1 : decode cX8_count 1 = .ok (.istore_n 2, 1) := by decide +kernel
theorem dX8_count_2 : decode cX8_count 2 = .ok (.iconst 0, 1) := by decide +kernel
theorem dX8_count_3 : decode cX8_count 3 = .ok (.istore_n 3, 1) := by decide +kernel
theorem dX8_count_4 : decode cX8_count 4 = .ok (.iconst 0, 1) := by decide +kernel
theorem dX8_count_5 : decode cX8_count 5 = .ok (.istore 4, 2) := by decide +kernel
theorem dX8_count_7 : decode cX8_count 7 = .ok (.iconst 0, 1) := by decide +kernel
theorem dX8_count_8 : decode cX8_count 8 = .ok (.istore 5, 2) := by decide +kernel
theorem dX8_count_10 : decode cX8_count 10 = .ok (.iload 5, 2) := by decide +kernel
theorem dX8_count_12 : decode cX8_count 12 = .ok (.aload_n 0, 1) := by decide +kernel
theorem dX8_count_13 : decode cX8_count 13 = .ok (.getfield 7, 3) := by decide +kernel
theorem dX8_count_16 : decode cX8_count 16 = .ok (.iconst 1, 1) := by decide +kernel
theorem dX8_count_17 : decode cX8_count 17 = .ok (.iaload, 1) := by decide +kernel
theorem dX8_count_18 : decode cX8_count 18 = .ok (.if_icmp .ge 74, 3) := by decide +kernel
theorem dX8_count_21 : decode cX8_count 21 = .ok (.iload_n 2, 1) := by decide +kernel
theorem dX8_count_22 : decode cX8_count 22 = .ok (.aload_n 0, 1) := by decide +kernel
theorem dX8_count_23 : decode cX8_count 23 = .ok (.iload 5, 2) := by decide +kernel
theorem dX8_count_25 : decode cX8_count 25 = .ok (.invokevirtual 93, 3) := by decide +kernel
theorem dX8_count_28 : decode cX8_count 28 = .ok (.ifCond .eq 7, 3) := by decide +kernel
theorem dX8_count_31 : decode cX8_count 31 = .ok (.iconst 1, 1) := by decide +kernel
theorem dX8_count_32 : decode cX8_count 32 = .ok (.goto 4, 3) := by decide +kernel
theorem dX8_count_35 : decode cX8_count 35 = .ok (.iconst 0, 1) := by decide +kernel
theorem dX8_count_36 : decode cX8_count 36 = .ok (.iadd, 1) := by decide +kernel
theorem dX8_count_37 : decode cX8_count 37 = .ok (.istore_n 2, 1) := by decide +kernel
theorem dX8_count_38 : decode cX8_count 38 = .ok (.iload_n 3, 1) := by decide +kernel
theorem dX8_count_39 : decode cX8_count 39 = .ok (.aload_n 0, 1) := by decide +kernel
theorem dX8_count_40 : decode cX8_count 40 = .ok (.iload 5, 2) := by decide +kernel
theorem dX8_count_42 : decode cX8_count 42 = .ok (.aload_n 0, 1) := by decide +kernel
theorem dX8_count_43 : decode cX8_count 43 = .ok (.getfield 7, 3) := by decide +kernel
theorem dX8_count_46 : decode cX8_count 46 = .ok (.bipush 7, 2) := by decide +kernel
theorem dX8_count_48 : decode cX8_count 48 = .ok (.iaload, 1) := by decide +kernel
theorem dX8_count_49 : decode cX8_count 49 = .ok (.invokevirtual 103, 3) := by decide +kernel
theorem dX8_count_52 : decode cX8_count 52 = .ok (.ifCond .eq 7, 3) := by decide +kernel
theorem dX8_count_55 : decode cX8_count 55 = .ok (.iconst 1, 1) := by decide +kernel
theorem dX8_count_56 : decode cX8_count 56 = .ok (.goto 4, 3) := by decide +kernel
theorem dX8_count_59 : decode cX8_count 59 = .ok (.iconst 0, 1) := by decide +kernel
theorem dX8_count_60 : decode cX8_count 60 = .ok (.iadd, 1) := by decide +kernel
theorem dX8_count_61 : decode cX8_count 61 = .ok (.istore_n 3, 1) := by decide +kernel
theorem dX8_count_62 : decode cX8_count 62 = .ok (.iload 4, 2) := by decide +kernel
theorem dX8_count_64 : decode cX8_count 64 = .ok (.aload_n 0, 1) := by decide +kernel
theorem dX8_count_65 : decode cX8_count 65 = .ok (.iload 5, 2) := by decide +kernel
theorem dX8_count_67 : decode cX8_count 67 = .ok (.invokevirtual 93, 3) := by decide +kernel
theorem dX8_count_70 : decode cX8_count 70 = .ok (.ifCond .eq 7, 3) := by decide +kernel
theorem dX8_count_73 : decode cX8_count 73 = .ok (.iconst 0, 1) := by decide +kernel
theorem dX8_count_74 : decode cX8_count 74 = .ok (.goto 9, 3) := by decide +kernel
theorem dX8_count_77 : decode cX8_count 77 = .ok (.aload_n 0, 1) := by decide +kernel
theorem dX8_count_78 : decode cX8_count 78 = .ok (.iload 5, 2) := by decide +kernel
theorem dX8_count_80 : decode cX8_count 80 = .ok (.invokevirtual 99, 3) := by decide +kernel
theorem dX8_count_83 : decode cX8_count 83 = .ok (.iadd, 1) := by decide +kernel
theorem dX8_count_84 : decode cX8_count 84 = .ok (.istore 4, 2) := by decide +kernel
theorem dX8_count_86 : decode cX8_count 86 = .ok (.iinc 5 1, 3) := by decide +kernel
theorem dX8_count_89 : decode cX8_count 89 = .ok (.goto (-79), 3) := by decide +kernel
theorem dX8_count_92 : decode cX8_count 92 = .ok (.iload_n 1, 1) := by decide +kernel
theorem dX8_count_93 : decode cX8_count 93 = .ok (.tableswitch 148 0 12 #[67, 67, 74, 76, 78, 86, 109, 109, 122, 125, 125, 138, 143], 67) := by decide +kernel
theorem dX8_count_160 : decode cX8_count 160 = .ok (.aload_n 0, 1) := by decide +kernel
theorem dX8_count_161 : decode cX8_count 161 = .ok (.getfield 7, 3) := by decide +kernel
theorem dX8_count_164 : decode cX8_count 164 = .ok (.iload_n 1, 1) := by decide +kernel
theorem dX8_count_165 : decode cX8_count 165 = .ok (.iaload, 1) := by decide +kernel
theorem dX8_count_166 : decode cX8_count 166 = .ok (.ireturn, 1) := by decide +kernel
theorem dX8_count_167 : decode cX8_count 167 = .ok (.iload_n 2, 1) := by decide +kernel
theorem dX8_count_168 : decode cX8_count 168 = .ok (.ireturn, 1) := by decide +kernel
theorem dX8_count_169 : decode cX8_count 169 = .ok (.iload_n 3, 1) := by decide +kernel
theorem dX8_count_170 : decode cX8_count 170 = .ok (.ireturn, 1) := by decide +kernel
theorem dX8_count_171 : decode cX8_count 171 = .ok (.aload_n 0, 1) := by decide +kernel
theorem dX8_count_172 : decode cX8_count 172 = .ok (.getfield 7, 3) := by decide +kernel
theorem dX8_count_175 : decode cX8_count 175 = .ok (.bipush 7, 2) := by decide +kernel
theorem dX8_count_177 : decode cX8_count 177 = .ok (.iaload, 1) := by decide +kernel
theorem dX8_count_178 : decode cX8_count 178 = .ok (.ireturn, 1) := by decide +kernel
theorem dX8_count_179 : decode cX8_count 179 = .ok (.aload_n 0, 1) := by decide +kernel
theorem dX8_count_180 : decode cX8_count 180 = .ok (.getfield 7, 3) := by decide +kernel
theorem dX8_count_183 : decode cX8_count 183 = .ok (.bipush 8, 2) := by decide +kernel
theorem dX8_count_185 : decode cX8_count 185 = .ok (.iaload, 1) := by decide +kernel
theorem dX8_count_186 : decode cX8_count 186 = .ok (.ifCond .ge 8, 3) := by decide +kernel
theorem dX8_count_189 : decode cX8_count 189 = .ok (.ldc 102, 2) := by decide +kernel
theorem dX8_count_191 : decode cX8_count 191 = .ok (.goto 10, 3) := by decide +kernel
theorem dX8_count_194 : decode cX8_count 194 = .ok (.aload_n 0, 1) := by decide +kernel
theorem dX8_count_195 : decode cX8_count 195 = .ok (.getfield 7, 3) := by decide +kernel
theorem dX8_count_198 : decode cX8_count 198 = .ok (.bipush 8, 2) := by decide +kernel
theorem dX8_count_200 : decode cX8_count 200 = .ok (.iaload, 1) := by decide +kernel
theorem dX8_count_201 : decode cX8_count 201 = .ok (.ireturn, 1) := by decide +kernel
theorem dX8_count_202 : decode cX8_count 202 = .ok (.aload_n 0, 1) := by decide +kernel
theorem dX8_count_203 : decode cX8_count 203 = .ok (.getfield 7, 3) := by decide +kernel
theorem dX8_count_206 : decode cX8_count 206 = .ok (.bipush 9, 2) := by decide +kernel
theorem dX8_count_208 : decode cX8_count 208 = .ok (.iload_n 1, 1) := by decide +kernel
theorem dX8_count_209 : decode cX8_count 209 = .ok (.iadd, 1) := by decide +kernel
theorem dX8_count_210 : decode cX8_count 210 = .ok (.bipush 6, 2) := by decide +kernel
theorem dX8_count_212 : decode cX8_count 212 = .ok (.isub, 1) := by decide +kernel
theorem dX8_count_213 : decode cX8_count 213 = .ok (.iaload, 1) := by decide +kernel
theorem dX8_count_214 : decode cX8_count 214 = .ok (.ireturn, 1) := by decide +kernel
theorem dX8_count_215 : decode cX8_count 215 = .ok (.iload 4, 2) := by decide +kernel
theorem dX8_count_217 : decode cX8_count 217 = .ok (.ireturn, 1) := by decide +kernel
theorem dX8_count_218 : decode cX8_count 218 = .ok (.aload_n 0, 1) := by decide +kernel
theorem dX8_count_219 : decode cX8_count 219 = .ok (.getfield 7, 3) := by decide +kernel
theorem dX8_count_222 : decode cX8_count 222 = .ok (.bipush 11, 2) := by decide +kernel
theorem dX8_count_224 : decode cX8_count 224 = .ok (.iload_n 1, 1) := by decide +kernel
theorem dX8_count_225 : decode cX8_count 225 = .ok (.iadd, 1) := by decide +kernel
theorem dX8_count_226 : decode cX8_count 226 = .ok (.bipush 9, 2) := by decide +kernel
theorem dX8_count_228 : decode cX8_count 228 = .ok (.isub, 1) := by decide +kernel
theorem dX8_count_229 : decode cX8_count 229 = .ok (.iaload, 1) := by decide +kernel
theorem dX8_count_230 : decode cX8_count 230 = .ok (.ireturn, 1) := by decide +kernel
theorem dX8_count_231 : decode cX8_count 231 = .ok (.aload_n 0, 1) := by decide +kernel
theorem dX8_count_232 : decode cX8_count 232 = .ok (.getfield 50, 3) := by decide +kernel
theorem dX8_count_235 : decode cX8_count 235 = .ok (.ireturn, 1) := by decide +kernel
theorem dX8_count_236 : decode cX8_count 236 = .ok (.aload_n 0, 1) := by decide +kernel
theorem dX8_count_237 : decode cX8_count 237 = .ok (.getfield 174, 3) := by decide +kernel
theorem dX8_count_240 : decode cX8_count 240 = .ok (.ireturn, 1) := by decide +kernel
theorem dX8_count_241 : decode cX8_count 241 = .ok (.iload_n 1, 1) := by decide +kernel
theorem dX8_count_242 : decode cX8_count 242 = .ok (.bipush 20, 2) := by decide +kernel
theorem dX8_count_244 : decode cX8_count 244 = .ok (.bipush 24, 2) := by decide +kernel
theorem dX8_count_246 : decode cX8_count 246 = .ok (.invokestatic 41, 3) := by decide +kernel
theorem dX8_count_249 : decode cX8_count 249 = .ok (.ifCond .eq 17, 3) := by decide +kernel
theorem dX8_count_252 : decode cX8_count 252 = .ok (.aload_n 0, 1) := by decide +kernel
theorem dX8_count_253 : decode cX8_count 253 = .ok (.getfield 7, 3) := by decide +kernel
theorem dX8_count_256 : decode cX8_count 256 = .ok (.iconst 2, 1) := by decide +kernel
theorem dX8_count_257 : decode cX8_count 257 = .ok (.iload_n 1, 1) := by decide +kernel
theorem dX8_count_258 : decode cX8_count 258 = .ok (.iadd, 1) := by decide +kernel
theorem dX8_count_259 : decode cX8_count 259 = .ok (.bipush 20, 2) := by decide +kernel
theorem dX8_count_261 : decode cX8_count 261 = .ok (.isub, 1) := by decide +kernel
theorem dX8_count_262 : decode cX8_count 262 = .ok (.iaload, 1) := by decide +kernel
theorem dX8_count_263 : decode cX8_count 263 = .ok (.goto 5, 3) := by decide +kernel
theorem dX8_count_266 : decode cX8_count 266 = .ok (.ldc 49, 2) := by decide +kernel
theorem dX8_count_268 : decode cX8_count 268 = .ok (.ireturn, 1) := by decide +kernel
theorem dX8_undo_0 : decode cX8_undo 0 = .ok (.aload_n 0, 1) := by decide +kernel
theorem dX8_undo_1 : decode cX8_undo 1 = .ok (.getfield 50, 3) := by decide +kernel
theorem dX8_undo_4 : decode cX8_undo 4 = .ok (.ifCond .ne 6, 3) := by decide +kernel
theorem dX8_undo_7 : decode cX8_undo 7 = .ok (.ldc 64, 2) := by decide +kernel
theorem dX8_undo_9 : decode cX8_undo 9 = .ok (.ireturn, 1) := by decide +kernel
theorem dX8_undo_10 : decode cX8_undo 10 = .ok (.aload_n 0, 1) := by decide +kernel
theorem dX8_undo_11 : decode cX8_undo 11 = .ok (.dup, 1) := by decide +kernel
theorem dX8_undo_12 : decode cX8_undo 12 = .ok (.getfield 50, 3) := by decide +kernel
theorem dX8_undo_15 : decode cX8_undo 15 = .ok (.iconst 1, 1) := by decide +kernel
theorem dX8_undo_16 : decode cX8_undo 16 = .ok (.isub, 1) := by decide +kernel
theorem dX8_undo_17 : decode cX8_undo 17 = .ok (.putfield 50, 3) := by decide +kernel
theorem dX8_undo_20 : decode cX8_undo 20 = .ok (.iconst 0, 1) := by decide +kernel
theorem dX8_undo_21 : decode cX8_undo 21 = .ok (.istore_n 1, 1) := by decide +kernel
theorem dX8_undo_22 : decode cX8_undo 22 = .ok (.iload_n 1, 1) := by decide +kernel
theorem dX8_undo_23 : decode cX8_undo 23 = .ok (.sipush 181, 3) := by decide +kernel
theorem dX8_undo_26 : decode cX8_undo 26 = .ok (.if_icmp .ge 30, 3) := by decide +kernel
theorem dX8_undo_29 : decode cX8_undo 29 = .ok (.aload_n 0, 1) := by decide +kernel
theorem dX8_undo_30 : decode cX8_undo 30 = .ok (.getfield 7, 3) := by decide +kernel
theorem dX8_undo_33 : decode cX8_undo 33 = .ok (.iload_n 1, 1) := by decide +kernel
theorem dX8_undo_34 : decode cX8_undo 34 = .ok (.aload_n 0, 1) := by decide +kernel
theorem dX8_undo_35 : decode cX8_undo 35 = .ok (.getfield 13, 3) := by decide +kernel
theorem dX8_undo_38 : decode cX8_undo 38 = .ok (.sipush 181, 3) := by decide +kernel
theorem dX8_undo_41 : decode cX8_undo 41 = .ok (.aload_n 0, 1) := by decide +kernel
theorem dX8_undo_42 : decode cX8_undo 42 = .ok (.getfield 50, 3) := by decide +kernel
theorem dX8_undo_45 : decode cX8_undo 45 = .ok (.imul, 1) := by decide +kernel
theorem dX8_undo_46 : decode cX8_undo 46 = .ok (.iload_n 1, 1) := by decide +kernel
theorem dX8_undo_47 : decode cX8_undo 47 = .ok (.iadd, 1) := by decide +kernel
theorem dX8_undo_48 : decode cX8_undo 48 = .ok (.iaload, 1) := by decide +kernel
theorem dX8_undo_49 : decode cX8_undo 49 = .ok (.iastore, 1) := by decide +kernel
theorem dX8_undo_50 : decode cX8_undo 50 = .ok (.iinc 1 1, 3) := by decide +kernel
theorem dX8_undo_53 : decode cX8_undo 53 = .ok (.goto (-31), 3) := by decide +kernel
theorem dX8_undo_56 : decode cX8_undo 56 = .ok (.aload_n 0, 1) := by decide +kernel
theorem dX8_undo_57 : decode cX8_undo 57 = .ok (.getfield 50, 3) := by decide +kernel
theorem dX8_undo_60 : decode cX8_undo 60 = .ok (.ireturn, 1) := by decide +kernel
theorem dX8_type_0 : decode cX8_type 0 = .ok (.iload_n 1, 1) := by decide +kernel
theorem dX8_type_1 : decode cX8_type 1 = .ok (.bipush 32, 2) := by decide +kernel
theorem dX8_type_3 : decode cX8_type 3 = .ok (.bipush 126, 2) := by decide +kernel
theorem dX8_type_5 : decode cX8_type 5 = .ok (.invokestatic 41, 3) := by decide +kernel
theorem dX8_type_8 : decode cX8_type 8 = .ok (.ifCond .ne 6, 3) := by decide +kernel
theorem dX8_type_11 : decode cX8_type 11 = .ok (.ldc 49, 2) := by decide +kernel
theorem dX8_type_13 : decode cX8_type 13 = .ok (.ireturn, 1) := by decide +kernel
theorem dX8_type_14 : decode cX8_type 14 = .ok (.aload_n 0, 1) := by decide +kernel
theorem dX8_type_15 : decode cX8_type 15 = .ok (.getfield 174, 3) := by decide +kernel
theorem dX8_type_18 : decode cX8_type 18 = .ok (.bipush 60, 2) := by decide +kernel
theorem dX8_type_20 : decode cX8_type 20 = .ok (.if_icmp .ne 6, 3) := by decide +kernel
theorem dX8_type_23 : decode cX8_type 23 = .ok (.ldc 65, 2) := by decide +kernel
theorem dX8_type_25 : decode cX8_type 25 = .ok (.ireturn, 1) := by decide +kernel
theorem dX8_type_26 : decode cX8_type 26 = .ok (.aload_n 0, 1) := by decide +kernel
theorem dX8_type_27 : decode cX8_type 27 = .ok (.getfield 22, 3) := by decide +kernel
theorem dX8_type_30 : decode cX8_type 30 = .ok (.aload_n 0, 1) := by decide +kernel
theorem dX8_type_31 : decode cX8_type 31 = .ok (.getfield 174, 3) := by decide +kernel
theorem dX8_type_34 : decode cX8_type 34 = .ok (.iload_n 1, 1) := by decide +kernel
theorem dX8_type_35 : decode cX8_type 35 = .ok (.i2c, 1) := by decide +kernel
theorem dX8_type_36 : decode cX8_type 36 = .ok (.castore, 1) := by decide +kernel
theorem dX8_type_37 : decode cX8_type 37 = .ok (.aload_n 0, 1) := by decide +kernel
theorem dX8_type_38 : decode cX8_type 38 = .ok (.dup, 1) := by decide +kernel
theorem dX8_type_39 : decode cX8_type 39 = .ok (.getfield 174, 3) := by decide +kernel
theorem dX8_type_42 : decode cX8_type 42 = .ok (.iconst 1, 1) := by decide +kernel
theorem dX8_type_43 : decode cX8_type 43 = .ok (.iadd, 1) := by decide +kernel
theorem dX8_type_44 : decode cX8_type 44 = .ok (.putfield 174, 3) := by decide +kernel
theorem dX8_type_47 : decode cX8_type 47 = .ok (.aload_n 0, 1) := by decide +kernel
theorem dX8_type_48 : decode cX8_type 48 = .ok (.getfield 174, 3) := by decide +kernel
theorem dX8_type_51 : decode cX8_type 51 = .ok (.ireturn, 1) := by decide +kernel
theorem dX8_clearText_0 : decode cX8_clearText 0 = .ok (.aload_n 0, 1) := by decide +kernel
theorem dX8_clearText_1 : decode cX8_clearText 1 = .ok (.getfield 174, 3) := by decide +kernel
theorem dX8_clearText_4 : decode cX8_clearText 4 = .ok (.istore_n 1, 1) := by decide +kernel
theorem dX8_clearText_5 : decode cX8_clearText 5 = .ok (.aload_n 0, 1) := by decide +kernel
theorem dX8_clearText_6 : decode cX8_clearText 6 = .ok (.iconst 0, 1) := by decide +kernel
theorem dX8_clearText_7 : decode cX8_clearText 7 = .ok (.putfield 174, 3) := by decide +kernel
theorem dX8_clearText_10 : decode cX8_clearText 10 = .ok (.iload_n 1, 1) := by decide +kernel
theorem dX8_clearText_11 : decode cX8_clearText 11 = .ok (.ireturn, 1) := by decide +kernel
theorem dX8_sign_0 : decode cX8_sign 0 = .ok (.aload_n 0, 1) := by decide +kernel
theorem dX8_sign_1 : decode cX8_sign 1 = .ok (.getfield 177, 3) := by decide +kernel
theorem dX8_sign_4 : decode cX8_sign 4 = .ok (.aload_n 0, 1) := by decide +kernel
theorem dX8_sign_5 : decode cX8_sign 5 = .ok (.getfield 174, 3) := by decide +kernel
theorem dX8_sign_8 : decode cX8_sign 8 = .ok (.if_icmp .ge 15, 3) := by decide +kernel
theorem dX8_sign_11 : decode cX8_sign 11 = .ok (.aload_n 0, 1) := by decide +kernel
theorem dX8_sign_12 : decode cX8_sign 12 = .ok (.getfield 22, 3) := by decide +kernel
theorem dX8_sign_15 : decode cX8_sign 15 = .ok (.aload_n 0, 1) := by decide +kernel
theorem dX8_sign_16 : decode cX8_sign 16 = .ok (.getfield 177, 3) := by decide +kernel
theorem dX8_sign_19 : decode cX8_sign 19 = .ok (.caload, 1) := by decide +kernel
theorem dX8_sign_20 : decode cX8_sign 20 = .ok (.goto 4, 3) := by decide +kernel
theorem dX8_sign_23 : decode cX8_sign 23 = .ok (.iconst (-1), 1) := by decide +kernel
theorem dX8_sign_24 : decode cX8_sign 24 = .ok (.ireturn, 1) := by decide +kernel
theorem dX8_readsForm_0 : decode cX8_readsForm 0 = .ok (.aload_n 0, 1) := by decide +kernel
theorem dX8_readsForm_1 : decode cX8_readsForm 1 = .ok (.invokevirtual 180, 3) := by decide +kernel
theorem dX8_readsForm_4 : decode cX8_readsForm 4 = .ok (.istore_n 1, 1) := by decide +kernel
theorem dX8_readsForm_5 : decode cX8_readsForm 5 = .ok (.iload_n 1, 1) := by decide +kernel
theorem dX8_readsForm_6 : decode cX8_readsForm 6 = .ok (.bipush 104, 2) := by decide +kernel
theorem dX8_readsForm_8 : decode cX8_readsForm 8 = .ok (.if_icmp .eq 9, 3) := by decide +kernel
theorem dX8_readsForm_11 : decode cX8_readsForm 11 = .ok (.iload_n 1, 1) := by decide +kernel
theorem dX8_readsForm_12 : decode cX8_readsForm 12 = .ok (.bipush 99, 2) := by decide +kernel
theorem dX8_readsForm_14 : decode cX8_readsForm 14 = .ok (.if_icmp .ne 7, 3) := by decide +kernel
theorem dX8_readsForm_17 : decode cX8_readsForm 17 = .ok (.iconst 1, 1) := by decide +kernel
theorem dX8_readsForm_18 : decode cX8_readsForm 18 = .ok (.goto 4, 3) := by decide +kernel
theorem dX8_readsForm_21 : decode cX8_readsForm 21 = .ok (.iconst 0, 1) := by decide +kernel
theorem dX8_readsForm_22 : decode cX8_readsForm 22 = .ok (.istore_n 2, 1) := by decide +kernel
theorem dX8_readsForm_23 : decode cX8_readsForm 23 = .ok (.iload_n 2, 1) := by decide +kernel
theorem dX8_readsForm_24 : decode cX8_readsForm 24 = .ok (.ifCond .ne 29, 3) := by decide +kernel
theorem dX8_readsForm_27 : decode cX8_readsForm 27 = .ok (.iload_n 1, 1) := by decide +kernel
theorem dX8_readsForm_28 : decode cX8_readsForm 28 = .ok (.bipush 112, 2) := by decide +kernel
theorem dX8_readsForm_30 : decode cX8_readsForm 30 = .ok (.if_icmp .eq 23, 3) := by decide +kernel
theorem dX8_readsForm_33 : decode cX8_readsForm 33 = .ok (.iload_n 1, 1) := by decide +kernel
theorem dX8_readsForm_34 : decode cX8_readsForm 34 = .ok (.bipush 100, 2) := by decide +kernel
theorem dX8_readsForm_36 : decode cX8_readsForm 36 = .ok (.if_icmp .eq 17, 3) := by decide +kernel
theorem dX8_readsForm_39 : decode cX8_readsForm 39 = .ok (.iload_n 1, 1) := by decide +kernel
theorem dX8_readsForm_40 : decode cX8_readsForm 40 = .ok (.bipush 114, 2) := by decide +kernel
theorem dX8_readsForm_42 : decode cX8_readsForm 42 = .ok (.if_icmp .eq 11, 3) := by decide +kernel
theorem dX8_readsForm_45 : decode cX8_readsForm 45 = .ok (.iload_n 1, 1) := by decide +kernel
theorem dX8_readsForm_46 : decode cX8_readsForm 46 = .ok (.bipush 119, 2) := by decide +kernel
theorem dX8_readsForm_48 : decode cX8_readsForm 48 = .ok (.if_icmp .eq 5, 3) := by decide +kernel
theorem dX8_readsForm_51 : decode cX8_readsForm 51 = .ok (.iconst 0, 1) := by decide +kernel
theorem dX8_readsForm_52 : decode cX8_readsForm 52 = .ok (.ireturn, 1) := by decide +kernel
theorem dX8_readsForm_53 : decode cX8_readsForm 53 = .ok (.aload_n 0, 1) := by decide +kernel
theorem dX8_readsForm_54 : decode cX8_readsForm 54 = .ok (.dup, 1) := by decide +kernel
theorem dX8_readsForm_55 : decode cX8_readsForm 55 = .ok (.getfield 177, 3) := by decide +kernel
theorem dX8_readsForm_58 : decode cX8_readsForm 58 = .ok (.iconst 1, 1) := by decide +kernel
theorem dX8_readsForm_59 : decode cX8_readsForm 59 = .ok (.iadd, 1) := by decide +kernel
theorem dX8_readsForm_60 : decode cX8_readsForm 60 = .ok (.putfield 177, 3) := by decide +kernel
theorem dX8_readsForm_63 : decode cX8_readsForm 63 = .ok (.aload_n 0, 1) := by decide +kernel
theorem dX8_readsForm_64 : decode cX8_readsForm 64 = .ok (.iconst 0, 1) := by decide +kernel
theorem dX8_readsForm_65 : decode cX8_readsForm 65 = .ok (.putfield 183, 3) := by decide +kernel
theorem dX8_readsForm_68 : decode cX8_readsForm 68 = .ok (.aload_n 0, 1) := by decide +kernel
theorem dX8_readsForm_69 : decode cX8_readsForm 69 = .ok (.getfield 177, 3) := by decide +kernel
theorem dX8_readsForm_72 : decode cX8_readsForm 72 = .ok (.istore_n 3, 1) := by decide +kernel
theorem dX8_readsForm_73 : decode cX8_readsForm 73 = .ok (.iload_n 2, 1) := by decide +kernel
theorem dX8_readsForm_74 : decode cX8_readsForm 74 = .ok (.ifCond .ne 59, 3) := by decide +kernel
theorem dX8_readsForm_77 : decode cX8_readsForm 77 = .ok (.aload_n 0, 1) := by decide +kernel
theorem dX8_readsForm_78 : decode cX8_readsForm 78 = .ok (.getfield 177, 3) := by decide +kernel
theorem dX8_readsForm_81 : decode cX8_readsForm 81 = .ok (.iload_n 3, 1) := by decide +kernel
theorem dX8_readsForm_82 : decode cX8_readsForm 82 = .ok (.iconst 3, 1) := by decide +kernel
theorem dX8_readsForm_83 : decode cX8_readsForm 83 = .ok (.iadd, 1) := by decide +kernel
theorem dX8_readsForm_84 : decode cX8_readsForm 84 = .ok (.if_icmp .ge 49, 3) := by decide +kernel
theorem dX8_readsForm_87 : decode cX8_readsForm 87 = .ok (.aload_n 0, 1) := by decide +kernel
theorem dX8_readsForm_88 : decode cX8_readsForm 88 = .ok (.invokevirtual 180, 3) := by decide +kernel
theorem dX8_readsForm_91 : decode cX8_readsForm 91 = .ok (.bipush 48, 2) := by decide +kernel
theorem dX8_readsForm_93 : decode cX8_readsForm 93 = .ok (.bipush 57, 2) := by decide +kernel
theorem dX8_readsForm_95 : decode cX8_readsForm 95 = .ok (.invokestatic 41, 3) := by decide +kernel
theorem dX8_readsForm_98 : decode cX8_readsForm 98 = .ok (.ifCond .eq 35, 3) := by decide +kernel
theorem dX8_readsForm_101 : decode cX8_readsForm 101 = .ok (.aload_n 0, 1) := by decide +kernel
theorem dX8_readsForm_102 : decode cX8_readsForm 102 = .ok (.bipush 10, 2) := by decide +kernel
theorem dX8_readsForm_104 : decode cX8_readsForm 104 = .ok (.aload_n 0, 1) := by decide +kernel
theorem dX8_readsForm_105 : decode cX8_readsForm 105 = .ok (.getfield 183, 3) := by decide +kernel
theorem dX8_readsForm_108 : decode cX8_readsForm 108 = .ok (.imul, 1) := by decide +kernel
theorem dX8_readsForm_109 : decode cX8_readsForm 109 = .ok (.aload_n 0, 1) := by decide +kernel
theorem dX8_readsForm_110 : decode cX8_readsForm 110 = .ok (.invokevirtual 180, 3) := by decide +kernel
theorem dX8_readsForm_113 : decode cX8_readsForm 113 = .ok (.iadd, 1) := by decide +kernel
theorem dX8_readsForm_114 : decode cX8_readsForm 114 = .ok (.bipush 48, 2) := by decide +kernel
theorem dX8_readsForm_116 : decode cX8_readsForm 116 = .ok (.isub, 1) := by decide +kernel
theorem dX8_readsForm_117 : decode cX8_readsForm 117 = .ok (.putfield 183, 3) := by decide +kernel
theorem dX8_readsForm_120 : decode cX8_readsForm 120 = .ok (.aload_n 0, 1) := by decide +kernel
theorem dX8_readsForm_121 : decode cX8_readsForm 121 = .ok (.dup, 1) := by decide +kernel
theorem dX8_readsForm_122 : decode cX8_readsForm 122 = .ok (.getfield 177, 3) := by decide +kernel
theorem dX8_readsForm_125 : decode cX8_readsForm 125 = .ok (.iconst 1, 1) := by decide +kernel
theorem dX8_readsForm_126 : decode cX8_readsForm 126 = .ok (.iadd, 1) := by decide +kernel
theorem dX8_readsForm_127 : decode cX8_readsForm 127 = .ok (.putfield 177, 3) := by decide +kernel
theorem dX8_readsForm_130 : decode cX8_readsForm 130 = .ok (.goto (-57), 3) := by decide +kernel
theorem dX8_readsForm_133 : decode cX8_readsForm 133 = .ok (.iload_n 2, 1) := by decide +kernel
theorem dX8_readsForm_134 : decode cX8_readsForm 134 = .ok (.ifCond .ne 11, 3) := by decide +kernel
theorem dX8_readsForm_137 : decode cX8_readsForm 137 = .ok (.aload_n 0, 1) := by decide +kernel
theorem dX8_readsForm_138 : decode cX8_readsForm 138 = .ok (.getfield 177, 3) := by decide +kernel
theorem dX8_readsForm_141 : decode cX8_readsForm 141 = .ok (.iload_n 3, 1) := by decide +kernel
theorem dX8_readsForm_142 : decode cX8_readsForm 142 = .ok (.if_icmp .eq 12, 3) := by decide +kernel
theorem dX8_readsForm_145 : decode cX8_readsForm 145 = .ok (.aload_n 0, 1) := by decide +kernel
theorem dX8_readsForm_146 : decode cX8_readsForm 146 = .ok (.invokevirtual 180, 3) := by decide +kernel
theorem dX8_readsForm_149 : decode cX8_readsForm 149 = .ok (.bipush 59, 2) := by decide +kernel
theorem dX8_readsForm_151 : decode cX8_readsForm 151 = .ok (.if_icmp .eq 5, 3) := by decide +kernel
theorem dX8_readsForm_154 : decode cX8_readsForm 154 = .ok (.iconst 0, 1) := by decide +kernel
theorem dX8_readsForm_155 : decode cX8_readsForm 155 = .ok (.ireturn, 1) := by decide +kernel
theorem dX8_readsForm_156 : decode cX8_readsForm 156 = .ok (.aload_n 0, 1) := by decide +kernel
theorem dX8_readsForm_157 : decode cX8_readsForm 157 = .ok (.dup, 1) := by decide +kernel
theorem dX8_readsForm_158 : decode cX8_readsForm 158 = .ok (.getfield 177, 3) := by decide +kernel
theorem dX8_readsForm_161 : decode cX8_readsForm 161 = .ok (.iconst 1, 1) := by decide +kernel
theorem dX8_readsForm_162 : decode cX8_readsForm 162 = .ok (.iadd, 1) := by decide +kernel
theorem dX8_readsForm_163 : decode cX8_readsForm 163 = .ok (.putfield 177, 3) := by decide +kernel
theorem dX8_readsForm_166 : decode cX8_readsForm 166 = .ok (.iconst 1, 1) := by decide +kernel
theorem dX8_readsForm_167 : decode cX8_readsForm 167 = .ok (.ireturn, 1) := by decide +kernel
theorem dX8_does_0 : decode cX8_does 0 = .ok (.iload_n 1, 1) := by decide +kernel
theorem dX8_does_1 : decode cX8_does 1 = .ok (.lookupswitch 94 #[(100, 65), (104, 60), (112, 51), (114, 75), (119, 85)], 51) := by decide +kernel
theorem dX8_does_52 : decode cX8_does 52 = .ok (.aload_n 0, 1) := by decide +kernel
theorem dX8_does_53 : decode cX8_does 53 = .ok (.aload_n 0, 1) := by decide +kernel
theorem dX8_does_54 : decode cX8_does 54 = .ok (.getfield 183, 3) := by decide +kernel
theorem dX8_does_57 : decode cX8_does 57 = .ok (.invokevirtual 112, 3) := by decide +kernel
theorem dX8_does_60 : decode cX8_does 60 = .ok (.ireturn, 1) := by decide +kernel
theorem dX8_does_61 : decode cX8_does 61 = .ok (.aload_n 0, 1) := by decide +kernel
theorem dX8_does_62 : decode cX8_does 62 = .ok (.invokevirtual 115, 3) := by decide +kernel
theorem dX8_does_65 : decode cX8_does 65 = .ok (.ireturn, 1) := by decide +kernel
theorem dX8_does_66 : decode cX8_does 66 = .ok (.aload_n 0, 1) := by decide +kernel
theorem dX8_does_67 : decode cX8_does 67 = .ok (.aload_n 0, 1) := by decide +kernel
theorem dX8_does_68 : decode cX8_does 68 = .ok (.getfield 183, 3) := by decide +kernel
theorem dX8_does_71 : decode cX8_does 71 = .ok (.iconst 0, 1) := by decide +kernel
theorem dX8_does_72 : decode cX8_does 72 = .ok (.invokevirtual 148, 3) := by decide +kernel
theorem dX8_does_75 : decode cX8_does 75 = .ok (.ireturn, 1) := by decide +kernel
theorem dX8_does_76 : decode cX8_does 76 = .ok (.aload_n 0, 1) := by decide +kernel
theorem dX8_does_77 : decode cX8_does 77 = .ok (.aload_n 0, 1) := by decide +kernel
theorem dX8_does_78 : decode cX8_does 78 = .ok (.getfield 183, 3) := by decide +kernel
theorem dX8_does_81 : decode cX8_does 81 = .ok (.iconst 1, 1) := by decide +kernel
theorem dX8_does_82 : decode cX8_does 82 = .ok (.invokevirtual 148, 3) := by decide +kernel
theorem dX8_does_85 : decode cX8_does 85 = .ok (.ireturn, 1) := by decide +kernel
theorem dX8_does_86 : decode cX8_does 86 = .ok (.aload_n 0, 1) := by decide +kernel
theorem dX8_does_87 : decode cX8_does 87 = .ok (.aload_n 0, 1) := by decide +kernel
theorem dX8_does_88 : decode cX8_does 88 = .ok (.getfield 183, 3) := by decide +kernel
theorem dX8_does_91 : decode cX8_does 91 = .ok (.invokevirtual 151, 3) := by decide +kernel
theorem dX8_does_94 : decode cX8_does 94 = .ok (.ireturn, 1) := by decide +kernel
theorem dX8_does_95 : decode cX8_does 95 = .ok (.aload_n 0, 1) := by decide +kernel
theorem dX8_does_96 : decode cX8_does 96 = .ok (.invokevirtual 154, 3) := by decide +kernel
theorem dX8_does_99 : decode cX8_does 99 = .ok (.ireturn, 1) := by decide +kernel
theorem dX8_doesNext_0 : decode cX8_doesNext 0 = .ok (.aload_n 0, 1) := by decide +kernel
theorem dX8_doesNext_1 : decode cX8_doesNext 1 = .ok (.getfield 177, 3) := by decide +kernel
theorem dX8_doesNext_4 : decode cX8_doesNext 4 = .ok (.istore_n 1, 1) := by decide +kernel
theorem dX8_doesNext_5 : decode cX8_doesNext 5 = .ok (.aload_n 0, 1) := by decide +kernel
theorem dX8_doesNext_6 : decode cX8_doesNext 6 = .ok (.invokevirtual 180, 3) := by decide +kernel
theorem dX8_doesNext_9 : decode cX8_doesNext 9 = .ok (.istore_n 2, 1) := by decide +kernel
theorem dX8_doesNext_10 : decode cX8_doesNext 10 = .ok (.aload_n 0, 1) := by decide +kernel
theorem dX8_doesNext_11 : decode cX8_doesNext 11 = .ok (.ldc 102, 2) := by decide +kernel
theorem dX8_doesNext_13 : decode cX8_doesNext 13 = .ok (.putfield 186, 3) := by decide +kernel
theorem dX8_doesNext_16 : decode cX8_doesNext 16 = .ok (.aload_n 0, 1) := by decide +kernel
theorem dX8_doesNext_17 : decode cX8_doesNext 17 = .ok (.invokevirtual 189, 3) := by decide +kernel
theorem dX8_doesNext_20 : decode cX8_doesNext 20 = .ok (.ifCond .ne 15, 3) := by decide +kernel
theorem dX8_doesNext_23 : decode cX8_doesNext 23 = .ok (.aload_n 0, 1) := by decide +kernel
theorem dX8_doesNext_24 : decode cX8_doesNext 24 = .ok (.aload_n 0, 1) := by decide +kernel
theorem dX8_doesNext_25 : decode cX8_doesNext 25 = .ok (.getfield 177, 3) := by decide +kernel
theorem dX8_doesNext_28 : decode cX8_doesNext 28 = .ok (.iload_n 1, 1) := by decide +kernel
theorem dX8_doesNext_29 : decode cX8_doesNext 29 = .ok (.isub, 1) := by decide +kernel
theorem dX8_doesNext_30 : decode cX8_doesNext 30 = .ok (.putfield 186, 3) := by decide +kernel
theorem dX8_doesNext_33 : decode cX8_doesNext 33 = .ok (.iconst 1, 1) := by decide +kernel
theorem dX8_doesNext_34 : decode cX8_doesNext 34 = .ok (.ireturn, 1) := by decide +kernel
theorem dX8_doesNext_35 : decode cX8_doesNext 35 = .ok (.iload_n 2, 1) := by decide +kernel
theorem dX8_doesNext_36 : decode cX8_doesNext 36 = .ok (.bipush 100, 2) := by decide +kernel
theorem dX8_doesNext_38 : decode cX8_doesNext 38 = .ok (.if_icmp .eq 9, 3) := by decide +kernel
theorem dX8_doesNext_41 : decode cX8_doesNext 41 = .ok (.iload_n 2, 1) := by decide +kernel
theorem dX8_doesNext_42 : decode cX8_doesNext 42 = .ok (.bipush 114, 2) := by decide +kernel
theorem dX8_doesNext_44 : decode cX8_doesNext 44 = .ok (.if_icmp .ne 7, 3) := by decide +kernel
theorem dX8_doesNext_47 : decode cX8_doesNext 47 = .ok (.iconst 1, 1) := by decide +kernel
theorem dX8_doesNext_48 : decode cX8_doesNext 48 = .ok (.goto 4, 3) := by decide +kernel
theorem dX8_doesNext_51 : decode cX8_doesNext 51 = .ok (.iconst 0, 1) := by decide +kernel
theorem dX8_doesNext_52 : decode cX8_doesNext 52 = .ok (.istore_n 3, 1) := by decide +kernel
theorem dX8_doesNext_53 : decode cX8_doesNext 53 = .ok (.iload_n 2, 1) := by decide +kernel
theorem dX8_doesNext_54 : decode cX8_doesNext 54 = .ok (.bipush 112, 2) := by decide +kernel
theorem dX8_doesNext_56 : decode cX8_doesNext 56 = .ok (.if_icmp .ne 14, 3) := by decide +kernel
theorem dX8_doesNext_59 : decode cX8_doesNext 59 = .ok (.aload_n 0, 1) := by decide +kernel
theorem dX8_doesNext_60 : decode cX8_doesNext 60 = .ok (.aload_n 0, 1) := by decide +kernel
theorem dX8_doesNext_61 : decode cX8_doesNext 61 = .ok (.getfield 183, 3) := by decide +kernel
theorem dX8_doesNext_64 : decode cX8_doesNext 64 = .ok (.invokevirtual 74, 3) := by decide +kernel
theorem dX8_doesNext_67 : decode cX8_doesNext 67 = .ok (.ifCond .eq 18, 3) := by decide +kernel
theorem dX8_doesNext_70 : decode cX8_doesNext 70 = .ok (.iload_n 3, 1) := by decide +kernel
theorem dX8_doesNext_71 : decode cX8_doesNext 71 = .ok (.ifCond .eq 16, 3) := by decide +kernel
theorem dX8_doesNext_74 : decode cX8_doesNext 74 = .ok (.aload_n 0, 1) := by decide +kernel
theorem dX8_doesNext_75 : decode cX8_doesNext 75 = .ok (.aload_n 0, 1) := by decide +kernel
theorem dX8_doesNext_76 : decode cX8_doesNext 76 = .ok (.getfield 183, 3) := by decide +kernel
theorem dX8_doesNext_79 : decode cX8_doesNext 79 = .ok (.invokevirtual 96, 3) := by decide +kernel
theorem dX8_doesNext_82 : decode cX8_doesNext 82 = .ok (.ifCond .ne 5, 3) := by decide +kernel
theorem dX8_doesNext_85 : decode cX8_doesNext 85 = .ok (.iconst 2, 1) := by decide +kernel
theorem dX8_doesNext_86 : decode cX8_doesNext 86 = .ok (.ireturn, 1) := by decide +kernel
theorem dX8_doesNext_87 : decode cX8_doesNext 87 = .ok (.iload_n 3, 1) := by decide +kernel
theorem dX8_doesNext_88 : decode cX8_doesNext 88 = .ok (.ifCond .eq 26, 3) := by decide +kernel
theorem dX8_doesNext_91 : decode cX8_doesNext 91 = .ok (.aload_n 0, 1) := by decide +kernel
theorem dX8_doesNext_92 : decode cX8_doesNext 92 = .ok (.aload_n 0, 1) := by decide +kernel
theorem dX8_doesNext_93 : decode cX8_doesNext 93 = .ok (.getfield 183, 3) := by decide +kernel
theorem dX8_doesNext_96 : decode cX8_doesNext 96 = .ok (.iload_n 2, 1) := by decide +kernel
theorem dX8_doesNext_97 : decode cX8_doesNext 97 = .ok (.bipush 100, 2) := by decide +kernel
theorem dX8_doesNext_99 : decode cX8_doesNext 99 = .ok (.if_icmp .ne 7, 3) := by decide +kernel
theorem dX8_doesNext_102 : decode cX8_doesNext 102 = .ok (.iconst 0, 1) := by decide +kernel
theorem dX8_doesNext_103 : decode cX8_doesNext 103 = .ok (.goto 4, 3) := by decide +kernel
theorem dX8_doesNext_106 : decode cX8_doesNext 106 = .ok (.iconst 1, 1) := by decide +kernel
theorem dX8_doesNext_107 : decode cX8_doesNext 107 = .ok (.iconst 0, 1) := by decide +kernel
theorem dX8_doesNext_108 : decode cX8_doesNext 108 = .ok (.invokevirtual 138, 3) := by decide +kernel
theorem dX8_doesNext_111 : decode cX8_doesNext 111 = .ok (.goto 5, 3) := by decide +kernel
theorem dX8_doesNext_114 : decode cX8_doesNext 114 = .ok (.ldc 102, 2) := by decide +kernel
theorem dX8_doesNext_116 : decode cX8_doesNext 116 = .ok (.istore 4, 2) := by decide +kernel
theorem dX8_doesNext_118 : decode cX8_doesNext 118 = .ok (.aload_n 0, 1) := by decide +kernel
theorem dX8_doesNext_119 : decode cX8_doesNext 119 = .ok (.iload_n 2, 1) := by decide +kernel
theorem dX8_doesNext_120 : decode cX8_doesNext 120 = .ok (.invokevirtual 192, 3) := by decide +kernel
theorem dX8_doesNext_123 : decode cX8_doesNext 123 = .ok (.ldc 49, 2) := by decide +kernel
theorem dX8_doesNext_125 : decode cX8_doesNext 125 = .ok (.if_icmp .gt 11, 3) := by decide +kernel
theorem dX8_doesNext_128 : decode cX8_doesNext 128 = .ok (.aload_n 0, 1) := by decide +kernel
theorem dX8_doesNext_129 : decode cX8_doesNext 129 = .ok (.iload 4, 2) := by decide +kernel
theorem dX8_doesNext_131 : decode cX8_doesNext 131 = .ok (.putfield 186, 3) := by decide +kernel
theorem dX8_doesNext_134 : decode cX8_doesNext 134 = .ok (.iconst 3, 1) := by decide +kernel
theorem dX8_doesNext_135 : decode cX8_doesNext 135 = .ok (.ireturn, 1) := by decide +kernel
theorem dX8_doesNext_136 : decode cX8_doesNext 136 = .ok (.iconst 0, 1) := by decide +kernel
theorem dX8_doesNext_137 : decode cX8_doesNext 137 = .ok (.ireturn, 1) := by decide +kernel
theorem dX8_faulty_0 : decode cX8_faulty 0 = .ok (.iconst 0, 1) := by decide +kernel
theorem dX8_faulty_1 : decode cX8_faulty 1 = .ok (.istore_n 1, 1) := by decide +kernel
theorem dX8_faulty_2 : decode cX8_faulty 2 = .ok (.iload_n 1, 1) := by decide +kernel
theorem dX8_faulty_3 : decode cX8_faulty 3 = .ok (.sipush 181, 3) := by decide +kernel
theorem dX8_faulty_6 : decode cX8_faulty 6 = .ok (.if_icmp .ge 21, 3) := by decide +kernel
theorem dX8_faulty_9 : decode cX8_faulty 9 = .ok (.aload_n 0, 1) := by decide +kernel
theorem dX8_faulty_10 : decode cX8_faulty 10 = .ok (.getfield 19, 3) := by decide +kernel
theorem dX8_faulty_13 : decode cX8_faulty 13 = .ok (.iload_n 1, 1) := by decide +kernel
theorem dX8_faulty_14 : decode cX8_faulty 14 = .ok (.aload_n 0, 1) := by decide +kernel
theorem dX8_faulty_15 : decode cX8_faulty 15 = .ok (.getfield 7, 3) := by decide +kernel
theorem dX8_faulty_18 : decode cX8_faulty 18 = .ok (.iload_n 1, 1) := by decide +kernel
theorem dX8_faulty_19 : decode cX8_faulty 19 = .ok (.iaload, 1) := by decide +kernel
theorem dX8_faulty_20 : decode cX8_faulty 20 = .ok (.iastore, 1) := by decide +kernel
theorem dX8_faulty_21 : decode cX8_faulty 21 = .ok (.iinc 1 1, 3) := by decide +kernel
theorem dX8_faulty_24 : decode cX8_faulty 24 = .ok (.goto (-22), 3) := by decide +kernel
theorem dX8_faulty_27 : decode cX8_faulty 27 = .ok (.ldc 102, 2) := by decide +kernel
theorem dX8_faulty_29 : decode cX8_faulty 29 = .ok (.istore_n 1, 1) := by decide +kernel
theorem dX8_faulty_30 : decode cX8_faulty 30 = .ok (.aload_n 0, 1) := by decide +kernel
theorem dX8_faulty_31 : decode cX8_faulty 31 = .ok (.iconst 0, 1) := by decide +kernel
theorem dX8_faulty_32 : decode cX8_faulty 32 = .ok (.putfield 177, 3) := by decide +kernel
theorem dX8_faulty_35 : decode cX8_faulty 35 = .ok (.aload_n 0, 1) := by decide +kernel
theorem dX8_faulty_36 : decode cX8_faulty 36 = .ok (.getfield 177, 3) := by decide +kernel
theorem dX8_faulty_39 : decode cX8_faulty 39 = .ok (.aload_n 0, 1) := by decide +kernel
theorem dX8_faulty_40 : decode cX8_faulty 40 = .ok (.getfield 174, 3) := by decide +kernel
theorem dX8_faulty_43 : decode cX8_faulty 43 = .ok (.if_icmp .ge 38, 3) := by decide +kernel
theorem dX8_faulty_46 : decode cX8_faulty 46 = .ok (.iload_n 1, 1) := by decide +kernel
theorem dX8_faulty_47 : decode cX8_faulty 47 = .ok (.ldc 102, 2) := by decide +kernel
theorem dX8_faulty_49 : decode cX8_faulty 49 = .ok (.if_icmp .ne 32, 3) := by decide +kernel
theorem dX8_faulty_52 : decode cX8_faulty 52 = .ok (.aload_n 0, 1) := by decide +kernel
theorem dX8_faulty_53 : decode cX8_faulty 53 = .ok (.getfield 177, 3) := by decide +kernel
theorem dX8_faulty_56 : decode cX8_faulty 56 = .ok (.istore_n 2, 1) := by decide +kernel
theorem dX8_faulty_57 : decode cX8_faulty 57 = .ok (.aload_n 0, 1) := by decide +kernel
theorem dX8_faulty_58 : decode cX8_faulty 58 = .ok (.aload_n 0, 1) := by decide +kernel
theorem dX8_faulty_59 : decode cX8_faulty 59 = .ok (.invokevirtual 195, 3) := by decide +kernel
theorem dX8_faulty_62 : decode cX8_faulty 62 = .ok (.putfield 198, 3) := by decide +kernel
theorem dX8_faulty_65 : decode cX8_faulty 65 = .ok (.aload_n 0, 1) := by decide +kernel
theorem dX8_faulty_66 : decode cX8_faulty 66 = .ok (.getfield 198, 3) := by decide +kernel
theorem dX8_faulty_69 : decode cX8_faulty 69 = .ok (.ifCond .le 7, 3) := by decide +kernel
theorem dX8_faulty_72 : decode cX8_faulty 72 = .ok (.iload_n 2, 1) := by decide +kernel
theorem dX8_faulty_73 : decode cX8_faulty 73 = .ok (.goto 4, 3) := by decide +kernel
theorem dX8_faulty_76 : decode cX8_faulty 76 = .ok (.iload_n 1, 1) := by decide +kernel
theorem dX8_faulty_77 : decode cX8_faulty 77 = .ok (.istore_n 1, 1) := by decide +kernel
theorem dX8_faulty_78 : decode cX8_faulty 78 = .ok (.goto (-43), 3) := by decide +kernel
theorem dX8_faulty_81 : decode cX8_faulty 81 = .ok (.iconst 0, 1) := by decide +kernel
theorem dX8_faulty_82 : decode cX8_faulty 82 = .ok (.istore_n 2, 1) := by decide +kernel
theorem dX8_faulty_83 : decode cX8_faulty 83 = .ok (.iload_n 2, 1) := by decide +kernel
theorem dX8_faulty_84 : decode cX8_faulty 84 = .ok (.sipush 181, 3) := by decide +kernel
theorem dX8_faulty_87 : decode cX8_faulty 87 = .ok (.if_icmp .ge 21, 3) := by decide +kernel
theorem dX8_faulty_90 : decode cX8_faulty 90 = .ok (.aload_n 0, 1) := by decide +kernel
theorem dX8_faulty_91 : decode cX8_faulty 91 = .ok (.getfield 7, 3) := by decide +kernel
theorem dX8_faulty_94 : decode cX8_faulty 94 = .ok (.iload_n 2, 1) := by decide +kernel
theorem dX8_faulty_95 : decode cX8_faulty 95 = .ok (.aload_n 0, 1) := by decide +kernel
theorem dX8_faulty_96 : decode cX8_faulty 96 = .ok (.getfield 19, 3) := by decide +kernel
theorem dX8_faulty_99 : decode cX8_faulty 99 = .ok (.iload_n 2, 1) := by decide +kernel
theorem dX8_faulty_100 : decode cX8_faulty 100 = .ok (.iaload, 1) := by decide +kernel
theorem dX8_faulty_101 : decode cX8_faulty 101 = .ok (.iastore, 1) := by decide +kernel
theorem dX8_faulty_102 : decode cX8_faulty 102 = .ok (.iinc 2 1, 3) := by decide +kernel
theorem dX8_faulty_105 : decode cX8_faulty 105 = .ok (.goto (-22), 3) := by decide +kernel
theorem dX8_faulty_108 : decode cX8_faulty 108 = .ok (.iload_n 1, 1) := by decide +kernel
theorem dX8_faulty_109 : decode cX8_faulty 109 = .ok (.ireturn, 1) := by decide +kernel
theorem dX8_fault_0 : decode cX8_fault 0 = .ok (.iload_n 1, 1) := by decide +kernel
theorem dX8_fault_1 : decode cX8_fault 1 = .ok (.iconst 0, 1) := by decide +kernel
theorem dX8_fault_2 : decode cX8_fault 2 = .ok (.iconst 2, 1) := by decide +kernel
theorem dX8_fault_3 : decode cX8_fault 3 = .ok (.invokestatic 41, 3) := by decide +kernel
theorem dX8_fault_6 : decode cX8_fault 6 = .ok (.ifCond .ne 6, 3) := by decide +kernel
theorem dX8_fault_9 : decode cX8_fault 9 = .ok (.ldc 49, 2) := by decide +kernel
theorem dX8_fault_11 : decode cX8_fault 11 = .ok (.ireturn, 1) := by decide +kernel
theorem dX8_fault_12 : decode cX8_fault 12 = .ok (.aload_n 0, 1) := by decide +kernel
theorem dX8_fault_13 : decode cX8_fault 13 = .ok (.invokevirtual 201, 3) := by decide +kernel
theorem dX8_fault_16 : decode cX8_fault 16 = .ok (.istore_n 2, 1) := by decide +kernel
theorem dX8_fault_17 : decode cX8_fault 17 = .ok (.iload_n 2, 1) := by decide +kernel
theorem dX8_fault_18 : decode cX8_fault 18 = .ok (.ldc 102, 2) := by decide +kernel
theorem dX8_fault_20 : decode cX8_fault 20 = .ok (.if_icmp .eq 7, 3) := by decide +kernel
theorem dX8_fault_23 : decode cX8_fault 23 = .ok (.iload_n 1, 1) := by decide +kernel
theorem dX8_fault_24 : decode cX8_fault 24 = .ok (.ifCond .ne 7, 3) := by decide +kernel
theorem dX8_fault_27 : decode cX8_fault 27 = .ok (.iload_n 2, 1) := by decide +kernel
theorem dX8_fault_28 : decode cX8_fault 28 = .ok (.goto 19, 3) := by decide +kernel
theorem dX8_fault_31 : decode cX8_fault 31 = .ok (.iload_n 1, 1) := by decide +kernel
theorem dX8_fault_32 : decode cX8_fault 32 = .ok (.iconst 1, 1) := by decide +kernel
theorem dX8_fault_33 : decode cX8_fault 33 = .ok (.if_icmp .ne 10, 3) := by decide +kernel
theorem dX8_fault_36 : decode cX8_fault 36 = .ok (.aload_n 0, 1) := by decide +kernel
theorem dX8_fault_37 : decode cX8_fault 37 = .ok (.getfield 198, 3) := by decide +kernel
theorem dX8_fault_40 : decode cX8_fault 40 = .ok (.goto 7, 3) := by decide +kernel
theorem dX8_fault_43 : decode cX8_fault 43 = .ok (.aload_n 0, 1) := by decide +kernel
theorem dX8_fault_44 : decode cX8_fault 44 = .ok (.getfield 186, 3) := by decide +kernel
theorem dX8_fault_47 : decode cX8_fault 47 = .ok (.ireturn, 1) := by decide +kernel
theorem dX8_play_0 : decode cX8_play 0 = .ok (.aload_n 0, 1) := by decide +kernel
theorem dX8_play_1 : decode cX8_play 1 = .ok (.invokevirtual 201, 3) := by decide +kernel
theorem dX8_play_4 : decode cX8_play 4 = .ok (.ldc 102, 2) := by decide +kernel
theorem dX8_play_6 : decode cX8_play 6 = .ok (.if_icmp .eq 6, 3) := by decide +kernel
theorem dX8_play_9 : decode cX8_play 9 = .ok (.ldc 64, 2) := by decide +kernel
theorem dX8_play_11 : decode cX8_play 11 = .ok (.ireturn, 1) := by decide +kernel
theorem dX8_play_12 : decode cX8_play 12 = .ok (.aload_n 0, 1) := by decide +kernel
theorem dX8_play_13 : decode cX8_play 13 = .ok (.invokevirtual 54, 3) := by decide +kernel
theorem dX8_play_16 : decode cX8_play 16 = .ok (.iconst 0, 1) := by decide +kernel
theorem dX8_play_17 : decode cX8_play 17 = .ok (.istore_n 1, 1) := by decide +kernel
theorem dX8_play_18 : decode cX8_play 18 = .ok (.aload_n 0, 1) := by decide +kernel
theorem dX8_play_19 : decode cX8_play 19 = .ok (.iconst 0, 1) := by decide +kernel
theorem dX8_play_20 : decode cX8_play 20 = .ok (.putfield 177, 3) := by decide +kernel
theorem dX8_play_23 : decode cX8_play 23 = .ok (.aload_n 0, 1) := by decide +kernel
theorem dX8_play_24 : decode cX8_play 24 = .ok (.getfield 177, 3) := by decide +kernel
theorem dX8_play_27 : decode cX8_play 27 = .ok (.aload_n 0, 1) := by decide +kernel
theorem dX8_play_28 : decode cX8_play 28 = .ok (.getfield 174, 3) := by decide +kernel
theorem dX8_play_31 : decode cX8_play 31 = .ok (.if_icmp .ge 21, 3) := by decide +kernel
theorem dX8_play_34 : decode cX8_play 34 = .ok (.iload_n 1, 1) := by decide +kernel
theorem dX8_play_35 : decode cX8_play 35 = .ok (.aload_n 0, 1) := by decide +kernel
theorem dX8_play_36 : decode cX8_play 36 = .ok (.invokevirtual 195, 3) := by decide +kernel
theorem dX8_play_39 : decode cX8_play 39 = .ok (.ifCond .ne 7, 3) := by decide +kernel
theorem dX8_play_42 : decode cX8_play 42 = .ok (.iconst 1, 1) := by decide +kernel
theorem dX8_play_43 : decode cX8_play 43 = .ok (.goto 4, 3) := by decide +kernel
theorem dX8_play_46 : decode cX8_play 46 = .ok (.iconst 0, 1) := by decide +kernel
theorem dX8_play_47 : decode cX8_play 47 = .ok (.iadd, 1) := by decide +kernel
theorem dX8_play_48 : decode cX8_play 48 = .ok (.istore_n 1, 1) := by decide +kernel
theorem dX8_play_49 : decode cX8_play 49 = .ok (.goto (-26), 3) := by decide +kernel
theorem dX8_play_52 : decode cX8_play 52 = .ok (.aload_n 0, 1) := by decide +kernel
theorem dX8_play_53 : decode cX8_play 53 = .ok (.iload_n 1, 1) := by decide +kernel
theorem dX8_play_54 : decode cX8_play 54 = .ok (.invokevirtual 57, 3) := by decide +kernel
theorem dX8_play_57 : decode cX8_play 57 = .ok (.ireturn, 1) := by decide +kernel
theorem dJxf58ca_isNaN_12338_0 : decode cJxf58ca_isNaN_12338 0 = .ok (.fload_n 0, 1) := by decide +kernel
theorem dJxf58ca_isNaN_12338_1 : decode cJxf58ca_isNaN_12338 1 = .ok (.fload_n 0, 1) := by decide +kernel
theorem dJxf58ca_isNaN_12338_2 : decode cJxf58ca_isNaN_12338 2 = .ok (.fcmp .l, 1) := by decide +kernel
theorem dJxf58ca_isNaN_12338_3 : decode cJxf58ca_isNaN_12338 3 = .ok (.ifCond .eq 7, 3) := by decide +kernel
theorem dJxf58ca_isNaN_12338_6 : decode cJxf58ca_isNaN_12338 6 = .ok (.iconst 1, 1) := by decide +kernel
theorem dJxf58ca_isNaN_12338_7 : decode cJxf58ca_isNaN_12338 7 = .ok (.goto 4, 3) := by decide +kernel
theorem dJxf58ca_isNaN_12338_10 : decode cJxf58ca_isNaN_12338 10 = .ok (.iconst 0, 1) := by decide +kernel
theorem dJxf58ca_isNaN_12338_11 : decode cJxf58ca_isNaN_12338 11 = .ok (.ireturn, 1) := by decide +kernel
theorem dJxf58ca_floatToIntBits_5c35a_0 : decode cJxf58ca_floatToIntBits_5c35a 0 = .ok (.fload_n 0, 1) := by decide +kernel
theorem dJxf58ca_floatToIntBits_5c35a_1 : decode cJxf58ca_floatToIntBits_5c35a 1 = .ok (.invokestatic 59, 3) := by decide +kernel
theorem dJxf58ca_floatToIntBits_5c35a_4 : decode cJxf58ca_floatToIntBits_5c35a 4 = .ok (.ifCond .ne 8, 3) := by decide +kernel
theorem dJxf58ca_floatToIntBits_5c35a_7 : decode cJxf58ca_floatToIntBits_5c35a 7 = .ok (.fload_n 0, 1) := by decide +kernel
theorem dJxf58ca_floatToIntBits_5c35a_8 : decode cJxf58ca_floatToIntBits_5c35a 8 = .ok (.invokestatic 74, 3) := by decide +kernel
theorem dJxf58ca_floatToIntBits_5c35a_11 : decode cJxf58ca_floatToIntBits_5c35a 11 = .ok (.ireturn, 1) := by decide +kernel
theorem dJxf58ca_floatToIntBits_5c35a_12 : decode cJxf58ca_floatToIntBits_5c35a 12 = .ok (.ldc 77, 2) := by decide +kernel
theorem dJxf58ca_floatToIntBits_5c35a_14 : decode cJxf58ca_floatToIntBits_5c35a 14 = .ok (.ireturn, 1) := by decide +kernel
theorem dJ9_abs_0f7a4_0 : decode cJ9_abs_0f7a4 0 = .ok (.iload_n 0, 1) := by decide +kernel
theorem dJ9_abs_0f7a4_1 : decode cJ9_abs_0f7a4 1 = .ok (.ifCond .ge 8, 3) := by decide +kernel
theorem dJ9_abs_0f7a4_4 : decode cJ9_abs_0f7a4 4 = .ok (.iload_n 0, 1) := by decide +kernel
theorem dJ9_abs_0f7a4_5 : decode cJ9_abs_0f7a4 5 = .ok (.ineg, 1) := by decide +kernel
theorem dJ9_abs_0f7a4_6 : decode cJ9_abs_0f7a4 6 = .ok (.goto 4, 3) := by decide +kernel
theorem dJ9_abs_0f7a4_9 : decode cJ9_abs_0f7a4 9 = .ok (.iload_n 0, 1) := by decide +kernel
theorem dJ9_abs_0f7a4_10 : decode cJ9_abs_0f7a4 10 = .ok (.ireturn, 1) := by decide +kernel
theorem dJ9_max_7cf53_0 : decode cJ9_max_7cf53 0 = .ok (.iload_n 0, 1) := by decide +kernel
theorem dJ9_max_7cf53_1 : decode cJ9_max_7cf53 1 = .ok (.iload_n 1, 1) := by decide +kernel
theorem dJ9_max_7cf53_2 : decode cJ9_max_7cf53 2 = .ok (.if_icmp .lt 7, 3) := by decide +kernel
theorem dJ9_max_7cf53_5 : decode cJ9_max_7cf53 5 = .ok (.iload_n 0, 1) := by decide +kernel
theorem dJ9_max_7cf53_6 : decode cJ9_max_7cf53 6 = .ok (.goto 4, 3) := by decide +kernel
theorem dJ9_max_7cf53_9 : decode cJ9_max_7cf53 9 = .ok (.iload_n 1, 1) := by decide +kernel
theorem dJ9_max_7cf53_10 : decode cJ9_max_7cf53 10 = .ok (.ireturn, 1) := by decide +kernel
theorem dJ9_min_7cf53_0 : decode cJ9_min_7cf53 0 = .ok (.iload_n 0, 1) := by decide +kernel
theorem dJ9_min_7cf53_1 : decode cJ9_min_7cf53 1 = .ok (.iload_n 1, 1) := by decide +kernel
theorem dJ9_min_7cf53_2 : decode cJ9_min_7cf53 2 = .ok (.if_icmp .gt 7, 3) := by decide +kernel
theorem dJ9_min_7cf53_5 : decode cJ9_min_7cf53 5 = .ok (.iload_n 0, 1) := by decide +kernel
theorem dJ9_min_7cf53_6 : decode cJ9_min_7cf53 6 = .ok (.goto 4, 3) := by decide +kernel
theorem dJ9_min_7cf53_9 : decode cJ9_min_7cf53 9 = .ok (.iload_n 1, 1) := by decide +kernel
theorem dJ9_min_7cf53_10 : decode cJ9_min_7cf53 10 = .ok (.ireturn, 1) := by decide +kernel
theorem dL_law_0 : decode cL_law 0 = .ok (.new 7, 3) := by decide +kernel
theorem dL_law_3 : decode cL_law 3 = .ok (.dup, 1) := by decide +kernel
theorem dL_law_4 : decode cL_law 4 = .ok (.invokespecial 9, 3) := by decide +kernel
theorem dL_law_7 : decode cL_law 7 = .ok (.astore_n 1, 1) := by decide +kernel
theorem dL_law_8 : decode cL_law 8 = .ok (.new 10, 3) := by decide +kernel
theorem dL_law_11 : decode cL_law 11 = .ok (.dup, 1) := by decide +kernel
theorem dL_law_12 : decode cL_law 12 = .ok (.invokespecial 12, 3) := by decide +kernel
theorem dL_law_15 : decode cL_law 15 = .ok (.astore_n 2, 1) := by decide +kernel
theorem dL_law_16 : decode cL_law 16 = .ok (.iconst 0, 1) := by decide +kernel
theorem dL_law_17 : decode cL_law 17 = .ok (.istore_n 3, 1) := by decide +kernel
theorem dL_law_18 : decode cL_law 18 = .ok (.iload_n 3, 1) := by decide +kernel
theorem dL_law_19 : decode cL_law 19 = .ok (.aload_n 0, 1) := by decide +kernel
theorem dL_law_20 : decode cL_law 20 = .ok (.arraylength, 1) := by decide +kernel
theorem dL_law_21 : decode cL_law 21 = .ok (.iconst 5, 1) := by decide +kernel
theorem dL_law_22 : decode cL_law 22 = .ok (.isub, 1) := by decide +kernel
theorem dL_law_23 : decode cL_law 23 = .ok (.if_icmp .gt 955, 3) := by decide +kernel
theorem dL_law_26 : decode cL_law 26 = .ok (.aload_n 0, 1) := by decide +kernel
theorem dL_law_27 : decode cL_law 27 = .ok (.iload_n 3, 1) := by decide +kernel
theorem dL_law_28 : decode cL_law 28 = .ok (.iaload, 1) := by decide +kernel
theorem dL_law_29 : decode cL_law 29 = .ok (.bipush 31, 2) := by decide +kernel
theorem dL_law_31 : decode cL_law 31 = .ok (.iand, 1) := by decide +kernel
theorem dL_law_32 : decode cL_law 32 = .ok (.tableswitch 940 0 31 #[144, 177, 230, 283, 316, 339, 372, 405, 428, 441, 474, 497, 520, 533, 566, 599, 612, 635, 648, 681, 704, 717, 750, 763, 786, 799, 832, 855, 868, 891, 904, 927], 144) := by decide +kernel
theorem dL_law_176 : decode cL_law 176 = .ok (.aload_n 1, 1) := by decide +kernel
theorem dL_law_177 : decode cL_law 177 = .ok (.aload_n 0, 1) := by decide +kernel
theorem dL_law_178 : decode cL_law 178 = .ok (.iload_n 3, 1) := by decide +kernel
theorem dL_law_179 : decode cL_law 179 = .ok (.iconst 1, 1) := by decide +kernel
theorem dL_law_180 : decode cL_law 180 = .ok (.iadd, 1) := by decide +kernel
theorem dL_law_181 : decode cL_law 181 = .ok (.iaload, 1) := by decide +kernel
theorem dL_law_182 : decode cL_law 182 = .ok (.aload_n 0, 1) := by decide +kernel
theorem dL_law_183 : decode cL_law 183 = .ok (.iload_n 3, 1) := by decide +kernel
theorem dL_law_184 : decode cL_law 184 = .ok (.iconst 2, 1) := by decide +kernel
theorem dL_law_185 : decode cL_law 185 = .ok (.iadd, 1) := by decide +kernel
theorem dL_law_186 : decode cL_law 186 = .ok (.iaload, 1) := by decide +kernel
theorem dL_law_187 : decode cL_law 187 = .ok (.invokevirtual 13, 3) := by decide +kernel
theorem dL_law_190 : decode cL_law 190 = .ok (.aload_n 2, 1) := by decide +kernel
theorem dL_law_191 : decode cL_law 191 = .ok (.aload_n 0, 1) := by decide +kernel
theorem dL_law_192 : decode cL_law 192 = .ok (.iload_n 3, 1) := by decide +kernel
theorem dL_law_193 : decode cL_law 193 = .ok (.iconst 1, 1) := by decide +kernel
theorem dL_law_194 : decode cL_law 194 = .ok (.iadd, 1) := by decide +kernel
theorem dL_law_195 : decode cL_law 195 = .ok (.iaload, 1) := by decide +kernel
theorem dL_law_196 : decode cL_law 196 = .ok (.aload_n 0, 1) := by decide +kernel
theorem dL_law_197 : decode cL_law 197 = .ok (.iload_n 3, 1) := by decide +kernel
theorem dL_law_198 : decode cL_law 198 = .ok (.iconst 2, 1) := by decide +kernel
theorem dL_law_199 : decode cL_law 199 = .ok (.iadd, 1) := by decide +kernel
theorem dL_law_200 : decode cL_law 200 = .ok (.iaload, 1) := by decide +kernel
theorem dL_law_201 : decode cL_law 201 = .ok (.invokevirtual 17, 3) := by decide +kernel
theorem dL_law_204 : decode cL_law 204 = .ok (.if_icmp .eq 768, 3) := by decide +kernel
theorem dL_law_207 : decode cL_law 207 = .ok (.iconst 0, 1) := by decide +kernel
theorem dL_law_208 : decode cL_law 208 = .ok (.ireturn, 1) := by decide +kernel
theorem dL_law_209 : decode cL_law 209 = .ok (.aload_n 1, 1) := by decide +kernel
theorem dL_law_210 : decode cL_law 210 = .ok (.aload_n 0, 1) := by decide +kernel
theorem dL_law_211 : decode cL_law 211 = .ok (.iload_n 3, 1) := by decide +kernel
theorem dL_law_212 : decode cL_law 212 = .ok (.iconst 1, 1) := by decide +kernel
theorem dL_law_213 : decode cL_law 213 = .ok (.iadd, 1) := by decide +kernel
theorem dL_law_214 : decode cL_law 214 = .ok (.iaload, 1) := by decide +kernel
theorem dL_law_215 : decode cL_law 215 = .ok (.aload_n 0, 1) := by decide +kernel
theorem dL_law_216 : decode cL_law 216 = .ok (.iload_n 3, 1) := by decide +kernel
theorem dL_law_217 : decode cL_law 217 = .ok (.iconst 2, 1) := by decide +kernel
theorem dL_law_218 : decode cL_law 218 = .ok (.iadd, 1) := by decide +kernel
theorem dL_law_219 : decode cL_law 219 = .ok (.iaload, 1) := by decide +kernel
theorem dL_law_220 : decode cL_law 220 = .ok (.aload_n 0, 1) := by decide +kernel
theorem dL_law_221 : decode cL_law 221 = .ok (.iload_n 3, 1) := by decide +kernel
theorem dL_law_222 : decode cL_law 222 = .ok (.iconst 3, 1) := by decide +kernel
theorem dL_law_223 : decode cL_law 223 = .ok (.iadd, 1) := by decide +kernel
theorem dL_law_224 : decode cL_law 224 = .ok (.iaload, 1) := by decide +kernel
theorem dL_law_225 : decode cL_law 225 = .ok (.aload_n 0, 1) := by decide +kernel
theorem dL_law_226 : decode cL_law 226 = .ok (.iload_n 3, 1) := by decide +kernel
theorem dL_law_227 : decode cL_law 227 = .ok (.iconst 4, 1) := by decide +kernel
theorem dL_law_228 : decode cL_law 228 = .ok (.iadd, 1) := by decide +kernel
theorem dL_law_229 : decode cL_law 229 = .ok (.iaload, 1) := by decide +kernel
theorem dL_law_230 : decode cL_law 230 = .ok (.invokevirtual 18, 3) := by decide +kernel
theorem dL_law_233 : decode cL_law 233 = .ok (.aload_n 2, 1) := by decide +kernel
theorem dL_law_234 : decode cL_law 234 = .ok (.aload_n 0, 1) := by decide +kernel
theorem dL_law_235 : decode cL_law 235 = .ok (.iload_n 3, 1) := by decide +kernel
theorem dL_law_236 : decode cL_law 236 = .ok (.iconst 1, 1) := by decide +kernel
theorem dL_law_237 : decode cL_law 237 = .ok (.iadd, 1) := by decide +kernel
theorem dL_law_238 : decode cL_law 238 = .ok (.iaload, 1) := by decide +kernel
theorem dL_law_239 : decode cL_law 239 = .ok (.aload_n 0, 1) := by decide +kernel
theorem dL_law_240 : decode cL_law 240 = .ok (.iload_n 3, 1) := by decide +kernel
theorem dL_law_241 : decode cL_law 241 = .ok (.iconst 2, 1) := by decide +kernel
theorem dL_law_242 : decode cL_law 242 = .ok (.iadd, 1) := by decide +kernel
theorem dL_law_243 : decode cL_law 243 = .ok (.iaload, 1) := by decide +kernel
theorem dL_law_244 : decode cL_law 244 = .ok (.aload_n 0, 1) := by decide +kernel
theorem dL_law_245 : decode cL_law 245 = .ok (.iload_n 3, 1) := by decide +kernel
theorem dL_law_246 : decode cL_law 246 = .ok (.iconst 3, 1) := by decide +kernel
theorem dL_law_247 : decode cL_law 247 = .ok (.iadd, 1) := by decide +kernel
theorem dL_law_248 : decode cL_law 248 = .ok (.iaload, 1) := by decide +kernel
theorem dL_law_249 : decode cL_law 249 = .ok (.aload_n 0, 1) := by decide +kernel
theorem dL_law_250 : decode cL_law 250 = .ok (.iload_n 3, 1) := by decide +kernel
theorem dL_law_251 : decode cL_law 251 = .ok (.iconst 4, 1) := by decide +kernel
theorem dL_law_252 : decode cL_law 252 = .ok (.iadd, 1) := by decide +kernel
theorem dL_law_253 : decode cL_law 253 = .ok (.iaload, 1) := by decide +kernel
theorem dL_law_254 : decode cL_law 254 = .ok (.invokevirtual 22, 3) := by decide +kernel
theorem dL_law_257 : decode cL_law 257 = .ok (.if_icmp .eq 715, 3) := by decide +kernel
theorem dL_law_260 : decode cL_law 260 = .ok (.iconst 0, 1) := by decide +kernel
theorem dL_law_261 : decode cL_law 261 = .ok (.ireturn, 1) := by decide +kernel
theorem dL_law_262 : decode cL_law 262 = .ok (.aload_n 1, 1) := by decide +kernel
theorem dL_law_263 : decode cL_law 263 = .ok (.aload_n 0, 1) := by decide +kernel
theorem dL_law_264 : decode cL_law 264 = .ok (.iload_n 3, 1) := by decide +kernel
theorem dL_law_265 : decode cL_law 265 = .ok (.iconst 1, 1) := by decide +kernel
theorem dL_law_266 : decode cL_law 266 = .ok (.iadd, 1) := by decide +kernel
theorem dL_law_267 : decode cL_law 267 = .ok (.iaload, 1) := by decide +kernel
theorem dL_law_268 : decode cL_law 268 = .ok (.aload_n 0, 1) := by decide +kernel
theorem dL_law_269 : decode cL_law 269 = .ok (.iload_n 3, 1) := by decide +kernel
theorem dL_law_270 : decode cL_law 270 = .ok (.iconst 2, 1) := by decide +kernel
theorem dL_law_271 : decode cL_law 271 = .ok (.iadd, 1) := by decide +kernel
theorem dL_law_272 : decode cL_law 272 = .ok (.iaload, 1) := by decide +kernel
theorem dL_law_273 : decode cL_law 273 = .ok (.aload_n 0, 1) := by decide +kernel
theorem dL_law_274 : decode cL_law 274 = .ok (.iload_n 3, 1) := by decide +kernel
theorem dL_law_275 : decode cL_law 275 = .ok (.iconst 3, 1) := by decide +kernel
theorem dL_law_276 : decode cL_law 276 = .ok (.iadd, 1) := by decide +kernel
theorem dL_law_277 : decode cL_law 277 = .ok (.iaload, 1) := by decide +kernel
theorem dL_law_278 : decode cL_law 278 = .ok (.aload_n 0, 1) := by decide +kernel
theorem dL_law_279 : decode cL_law 279 = .ok (.iload_n 3, 1) := by decide +kernel
theorem dL_law_280 : decode cL_law 280 = .ok (.iconst 4, 1) := by decide +kernel
theorem dL_law_281 : decode cL_law 281 = .ok (.iadd, 1) := by decide +kernel
theorem dL_law_282 : decode cL_law 282 = .ok (.iaload, 1) := by decide +kernel
theorem dL_law_283 : decode cL_law 283 = .ok (.invokevirtual 23, 3) := by decide +kernel
theorem dL_law_286 : decode cL_law 286 = .ok (.aload_n 2, 1) := by decide +kernel
theorem dL_law_287 : decode cL_law 287 = .ok (.aload_n 0, 1) := by decide +kernel
theorem dL_law_288 : decode cL_law 288 = .ok (.iload_n 3, 1) := by decide +kernel
theorem dL_law_289 : decode cL_law 289 = .ok (.iconst 1, 1) := by decide +kernel
theorem dL_law_290 : decode cL_law 290 = .ok (.iadd, 1) := by decide +kernel
theorem dL_law_291 : decode cL_law 291 = .ok (.iaload, 1) := by decide +kernel
theorem dL_law_292 : decode cL_law 292 = .ok (.aload_n 0, 1) := by decide +kernel
theorem dL_law_293 : decode cL_law 293 = .ok (.iload_n 3, 1) := by decide +kernel
theorem dL_law_294 : decode cL_law 294 = .ok (.iconst 2, 1) := by decide +kernel
theorem dL_law_295 : decode cL_law 295 = .ok (.iadd, 1) := by decide +kernel
theorem dL_law_296 : decode cL_law 296 = .ok (.iaload, 1) := by decide +kernel
theorem dL_law_297 : decode cL_law 297 = .ok (.aload_n 0, 1) := by decide +kernel
theorem dL_law_298 : decode cL_law 298 = .ok (.iload_n 3, 1) := by decide +kernel
theorem dL_law_299 : decode cL_law 299 = .ok (.iconst 3, 1) := by decide +kernel
theorem dL_law_300 : decode cL_law 300 = .ok (.iadd, 1) := by decide +kernel
theorem dL_law_301 : decode cL_law 301 = .ok (.iaload, 1) := by decide +kernel
theorem dL_law_302 : decode cL_law 302 = .ok (.aload_n 0, 1) := by decide +kernel
theorem dL_law_303 : decode cL_law 303 = .ok (.iload_n 3, 1) := by decide +kernel
theorem dL_law_304 : decode cL_law 304 = .ok (.iconst 4, 1) := by decide +kernel
theorem dL_law_305 : decode cL_law 305 = .ok (.iadd, 1) := by decide +kernel
theorem dL_law_306 : decode cL_law 306 = .ok (.iaload, 1) := by decide +kernel
theorem dL_law_307 : decode cL_law 307 = .ok (.invokevirtual 26, 3) := by decide +kernel
theorem dL_law_310 : decode cL_law 310 = .ok (.if_icmp .eq 662, 3) := by decide +kernel
theorem dL_law_313 : decode cL_law 313 = .ok (.iconst 0, 1) := by decide +kernel
theorem dL_law_314 : decode cL_law 314 = .ok (.ireturn, 1) := by decide +kernel
theorem dL_law_315 : decode cL_law 315 = .ok (.aload_n 1, 1) := by decide +kernel
theorem dL_law_316 : decode cL_law 316 = .ok (.aload_n 0, 1) := by decide +kernel
theorem dL_law_317 : decode cL_law 317 = .ok (.iload_n 3, 1) := by decide +kernel
theorem dL_law_318 : decode cL_law 318 = .ok (.iconst 1, 1) := by decide +kernel
theorem dL_law_319 : decode cL_law 319 = .ok (.iadd, 1) := by decide +kernel
theorem dL_law_320 : decode cL_law 320 = .ok (.iaload, 1) := by decide +kernel
theorem dL_law_321 : decode cL_law 321 = .ok (.aload_n 0, 1) := by decide +kernel
theorem dL_law_322 : decode cL_law 322 = .ok (.iload_n 3, 1) := by decide +kernel
theorem dL_law_323 : decode cL_law 323 = .ok (.iconst 2, 1) := by decide +kernel
theorem dL_law_324 : decode cL_law 324 = .ok (.iadd, 1) := by decide +kernel
theorem dL_law_325 : decode cL_law 325 = .ok (.iaload, 1) := by decide +kernel
theorem dL_law_326 : decode cL_law 326 = .ok (.invokevirtual 27, 3) := by decide +kernel
theorem dL_law_329 : decode cL_law 329 = .ok (.aload_n 2, 1) := by decide +kernel
theorem dL_law_330 : decode cL_law 330 = .ok (.aload_n 0, 1) := by decide +kernel
theorem dL_law_331 : decode cL_law 331 = .ok (.iload_n 3, 1) := by decide +kernel
theorem dL_law_332 : decode cL_law 332 = .ok (.iconst 1, 1) := by decide +kernel
theorem dL_law_333 : decode cL_law 333 = .ok (.iadd, 1) := by decide +kernel
theorem dL_law_334 : decode cL_law 334 = .ok (.iaload, 1) := by decide +kernel
theorem dL_law_335 : decode cL_law 335 = .ok (.aload_n 0, 1) := by decide +kernel
theorem dL_law_336 : decode cL_law 336 = .ok (.iload_n 3, 1) := by decide +kernel
theorem dL_law_337 : decode cL_law 337 = .ok (.iconst 2, 1) := by decide +kernel
theorem dL_law_338 : decode cL_law 338 = .ok (.iadd, 1) := by decide +kernel
theorem dL_law_339 : decode cL_law 339 = .ok (.iaload, 1) := by decide +kernel
theorem dL_law_340 : decode cL_law 340 = .ok (.invokevirtual 30, 3) := by decide +kernel
theorem dL_law_343 : decode cL_law 343 = .ok (.if_icmp .eq 629, 3) := by decide +kernel
theorem dL_law_346 : decode cL_law 346 = .ok (.iconst 0, 1) := by decide +kernel
theorem dL_law_347 : decode cL_law 347 = .ok (.ireturn, 1) := by decide +kernel
theorem dL_law_348 : decode cL_law 348 = .ok (.aload_n 1, 1) := by decide +kernel
theorem dL_law_349 : decode cL_law 349 = .ok (.aload_n 0, 1) := by decide +kernel
theorem dL_law_350 : decode cL_law 350 = .ok (.iload_n 3, 1) := by decide +kernel
theorem dL_law_351 : decode cL_law 351 = .ok (.iconst 1, 1) := by decide +kernel
theorem dL_law_352 : decode cL_law 352 = .ok (.iadd, 1) := by decide +kernel
theorem dL_law_353 : decode cL_law 353 = .ok (.iaload, 1) := by decide +kernel
theorem dL_law_354 : decode cL_law 354 = .ok (.invokevirtual 31, 3) := by decide +kernel
theorem dL_law_357 : decode cL_law 357 = .ok (.aload_n 2, 1) := by decide +kernel
theorem dL_law_358 : decode cL_law 358 = .ok (.aload_n 0, 1) := by decide +kernel
theorem dL_law_359 : decode cL_law 359 = .ok (.iload_n 3, 1) := by decide +kernel
theorem dL_law_360 : decode cL_law 360 = .ok (.iconst 1, 1) := by decide +kernel
theorem dL_law_361 : decode cL_law 361 = .ok (.iadd, 1) := by decide +kernel
theorem dL_law_362 : decode cL_law 362 = .ok (.iaload, 1) := by decide +kernel
theorem dL_law_363 : decode cL_law 363 = .ok (.invokevirtual 35, 3) := by decide +kernel
theorem dL_law_366 : decode cL_law 366 = .ok (.if_icmp .eq 606, 3) := by decide +kernel
theorem dL_law_369 : decode cL_law 369 = .ok (.iconst 0, 1) := by decide +kernel
theorem dL_law_370 : decode cL_law 370 = .ok (.ireturn, 1) := by decide +kernel
theorem dL_law_371 : decode cL_law 371 = .ok (.aload_n 1, 1) := by decide +kernel
theorem dL_law_372 : decode cL_law 372 = .ok (.aload_n 0, 1) := by decide +kernel
theorem dL_law_373 : decode cL_law 373 = .ok (.iload_n 3, 1) := by decide +kernel
theorem dL_law_374 : decode cL_law 374 = .ok (.iconst 1, 1) := by decide +kernel
theorem dL_law_375 : decode cL_law 375 = .ok (.iadd, 1) := by decide +kernel
theorem dL_law_376 : decode cL_law 376 = .ok (.iaload, 1) := by decide +kernel
theorem dL_law_377 : decode cL_law 377 = .ok (.aload_n 0, 1) := by decide +kernel
theorem dL_law_378 : decode cL_law 378 = .ok (.iload_n 3, 1) := by decide +kernel
theorem dL_law_379 : decode cL_law 379 = .ok (.iconst 2, 1) := by decide +kernel
theorem dL_law_380 : decode cL_law 380 = .ok (.iadd, 1) := by decide +kernel
theorem dL_law_381 : decode cL_law 381 = .ok (.iaload, 1) := by decide +kernel
theorem dL_law_382 : decode cL_law 382 = .ok (.invokevirtual 36, 3) := by decide +kernel
theorem dL_law_385 : decode cL_law 385 = .ok (.aload_n 2, 1) := by decide +kernel
theorem dL_law_386 : decode cL_law 386 = .ok (.aload_n 0, 1) := by decide +kernel
theorem dL_law_387 : decode cL_law 387 = .ok (.iload_n 3, 1) := by decide +kernel
theorem dL_law_388 : decode cL_law 388 = .ok (.iconst 1, 1) := by decide +kernel
theorem dL_law_389 : decode cL_law 389 = .ok (.iadd, 1) := by decide +kernel
theorem dL_law_390 : decode cL_law 390 = .ok (.iaload, 1) := by decide +kernel
theorem dL_law_391 : decode cL_law 391 = .ok (.aload_n 0, 1) := by decide +kernel
theorem dL_law_392 : decode cL_law 392 = .ok (.iload_n 3, 1) := by decide +kernel
theorem dL_law_393 : decode cL_law 393 = .ok (.iconst 2, 1) := by decide +kernel
theorem dL_law_394 : decode cL_law 394 = .ok (.iadd, 1) := by decide +kernel
theorem dL_law_395 : decode cL_law 395 = .ok (.iaload, 1) := by decide +kernel
theorem dL_law_396 : decode cL_law 396 = .ok (.invokevirtual 39, 3) := by decide +kernel
theorem dL_law_399 : decode cL_law 399 = .ok (.if_icmp .eq 573, 3) := by decide +kernel
theorem dL_law_402 : decode cL_law 402 = .ok (.iconst 0, 1) := by decide +kernel
theorem dL_law_403 : decode cL_law 403 = .ok (.ireturn, 1) := by decide +kernel
theorem dL_law_404 : decode cL_law 404 = .ok (.aload_n 1, 1) := by decide +kernel
theorem dL_law_405 : decode cL_law 405 = .ok (.aload_n 0, 1) := by decide +kernel
theorem dL_law_406 : decode cL_law 406 = .ok (.iload_n 3, 1) := by decide +kernel
theorem dL_law_407 : decode cL_law 407 = .ok (.iconst 1, 1) := by decide +kernel
theorem dL_law_408 : decode cL_law 408 = .ok (.iadd, 1) := by decide +kernel
theorem dL_law_409 : decode cL_law 409 = .ok (.iaload, 1) := by decide +kernel
theorem dL_law_410 : decode cL_law 410 = .ok (.aload_n 0, 1) := by decide +kernel
theorem dL_law_411 : decode cL_law 411 = .ok (.iload_n 3, 1) := by decide +kernel
theorem dL_law_412 : decode cL_law 412 = .ok (.iconst 2, 1) := by decide +kernel
theorem dL_law_413 : decode cL_law 413 = .ok (.iadd, 1) := by decide +kernel
theorem dL_law_414 : decode cL_law 414 = .ok (.iaload, 1) := by decide +kernel
theorem dL_law_415 : decode cL_law 415 = .ok (.invokevirtual 40, 3) := by decide +kernel
theorem dL_law_418 : decode cL_law 418 = .ok (.aload_n 2, 1) := by decide +kernel
theorem dL_law_419 : decode cL_law 419 = .ok (.aload_n 0, 1) := by decide +kernel
theorem dL_law_420 : decode cL_law 420 = .ok (.iload_n 3, 1) := by decide +kernel
theorem dL_law_421 : decode cL_law 421 = .ok (.iconst 1, 1) := by decide +kernel
theorem dL_law_422 : decode cL_law 422 = .ok (.iadd, 1) := by decide +kernel
theorem dL_law_423 : decode cL_law 423 = .ok (.iaload, 1) := by decide +kernel
theorem dL_law_424 : decode cL_law 424 = .ok (.aload_n 0, 1) := by decide +kernel
theorem dL_law_425 : decode cL_law 425 = .ok (.iload_n 3, 1) := by decide +kernel
theorem dL_law_426 : decode cL_law 426 = .ok (.iconst 2, 1) := by decide +kernel
theorem dL_law_427 : decode cL_law 427 = .ok (.iadd, 1) := by decide +kernel
theorem dL_law_428 : decode cL_law 428 = .ok (.iaload, 1) := by decide +kernel
theorem dL_law_429 : decode cL_law 429 = .ok (.invokevirtual 43, 3) := by decide +kernel
theorem dL_law_432 : decode cL_law 432 = .ok (.if_icmp .eq 540, 3) := by decide +kernel
theorem dL_law_435 : decode cL_law 435 = .ok (.iconst 0, 1) := by decide +kernel
theorem dL_law_436 : decode cL_law 436 = .ok (.ireturn, 1) := by decide +kernel
theorem dL_law_437 : decode cL_law 437 = .ok (.aload_n 1, 1) := by decide +kernel
theorem dL_law_438 : decode cL_law 438 = .ok (.aload_n 0, 1) := by decide +kernel
theorem dL_law_439 : decode cL_law 439 = .ok (.iload_n 3, 1) := by decide +kernel
theorem dL_law_440 : decode cL_law 440 = .ok (.iconst 1, 1) := by decide +kernel
theorem dL_law_441 : decode cL_law 441 = .ok (.iadd, 1) := by decide +kernel
theorem dL_law_442 : decode cL_law 442 = .ok (.iaload, 1) := by decide +kernel
theorem dL_law_443 : decode cL_law 443 = .ok (.invokevirtual 44, 3) := by decide +kernel
theorem dL_law_446 : decode cL_law 446 = .ok (.aload_n 2, 1) := by decide +kernel
theorem dL_law_447 : decode cL_law 447 = .ok (.aload_n 0, 1) := by decide +kernel
theorem dL_law_448 : decode cL_law 448 = .ok (.iload_n 3, 1) := by decide +kernel
theorem dL_law_449 : decode cL_law 449 = .ok (.iconst 1, 1) := by decide +kernel
theorem dL_law_450 : decode cL_law 450 = .ok (.iadd, 1) := by decide +kernel
theorem dL_law_451 : decode cL_law 451 = .ok (.iaload, 1) := by decide +kernel
theorem dL_law_452 : decode cL_law 452 = .ok (.invokevirtual 47, 3) := by decide +kernel
theorem dL_law_455 : decode cL_law 455 = .ok (.if_icmp .eq 517, 3) := by decide +kernel
theorem dL_law_458 : decode cL_law 458 = .ok (.iconst 0, 1) := by decide +kernel
theorem dL_law_459 : decode cL_law 459 = .ok (.ireturn, 1) := by decide +kernel
theorem dL_law_460 : decode cL_law 460 = .ok (.aload_n 1, 1) := by decide +kernel
theorem dL_law_461 : decode cL_law 461 = .ok (.invokevirtual 48, 3) := by decide +kernel
theorem dL_law_464 : decode cL_law 464 = .ok (.aload_n 2, 1) := by decide +kernel
theorem dL_law_465 : decode cL_law 465 = .ok (.invokevirtual 52, 3) := by decide +kernel
theorem dL_law_468 : decode cL_law 468 = .ok (.if_icmp .eq 504, 3) := by decide +kernel
theorem dL_law_471 : decode cL_law 471 = .ok (.iconst 0, 1) := by decide +kernel
theorem dL_law_472 : decode cL_law 472 = .ok (.ireturn, 1) := by decide +kernel
theorem dL_law_473 : decode cL_law 473 = .ok (.aload_n 1, 1) := by decide +kernel
theorem dL_law_474 : decode cL_law 474 = .ok (.aload_n 0, 1) := by decide +kernel
theorem dL_law_475 : decode cL_law 475 = .ok (.iload_n 3, 1) := by decide +kernel
theorem dL_law_476 : decode cL_law 476 = .ok (.iconst 1, 1) := by decide +kernel
theorem dL_law_477 : decode cL_law 477 = .ok (.iadd, 1) := by decide +kernel
theorem dL_law_478 : decode cL_law 478 = .ok (.iaload, 1) := by decide +kernel
theorem dL_law_479 : decode cL_law 479 = .ok (.aload_n 0, 1) := by decide +kernel
theorem dL_law_480 : decode cL_law 480 = .ok (.iload_n 3, 1) := by decide +kernel
theorem dL_law_481 : decode cL_law 481 = .ok (.iconst 2, 1) := by decide +kernel
theorem dL_law_482 : decode cL_law 482 = .ok (.iadd, 1) := by decide +kernel
theorem dL_law_483 : decode cL_law 483 = .ok (.iaload, 1) := by decide +kernel
theorem dL_law_484 : decode cL_law 484 = .ok (.invokevirtual 53, 3) := by decide +kernel
theorem dL_law_487 : decode cL_law 487 = .ok (.aload_n 2, 1) := by decide +kernel
theorem dL_law_488 : decode cL_law 488 = .ok (.aload_n 0, 1) := by decide +kernel
theorem dL_law_489 : decode cL_law 489 = .ok (.iload_n 3, 1) := by decide +kernel
theorem dL_law_490 : decode cL_law 490 = .ok (.iconst 1, 1) := by decide +kernel
theorem dL_law_491 : decode cL_law 491 = .ok (.iadd, 1) := by decide +kernel
theorem dL_law_492 : decode cL_law 492 = .ok (.iaload, 1) := by decide +kernel
theorem dL_law_493 : decode cL_law 493 = .ok (.aload_n 0, 1) := by decide +kernel
theorem dL_law_494 : decode cL_law 494 = .ok (.iload_n 3, 1) := by decide +kernel
theorem dL_law_495 : decode cL_law 495 = .ok (.iconst 2, 1) := by decide +kernel
theorem dL_law_496 : decode cL_law 496 = .ok (.iadd, 1) := by decide +kernel
theorem dL_law_497 : decode cL_law 497 = .ok (.iaload, 1) := by decide +kernel
theorem dL_law_498 : decode cL_law 498 = .ok (.invokevirtual 56, 3) := by decide +kernel
theorem dL_law_501 : decode cL_law 501 = .ok (.if_icmp .eq 471, 3) := by decide +kernel
theorem dL_law_504 : decode cL_law 504 = .ok (.iconst 0, 1) := by decide +kernel
theorem dL_law_505 : decode cL_law 505 = .ok (.ireturn, 1) := by decide +kernel
theorem dL_law_506 : decode cL_law 506 = .ok (.aload_n 1, 1) := by decide +kernel
theorem dL_law_507 : decode cL_law 507 = .ok (.aload_n 0, 1) := by decide +kernel
theorem dL_law_508 : decode cL_law 508 = .ok (.iload_n 3, 1) := by decide +kernel
theorem dL_law_509 : decode cL_law 509 = .ok (.iconst 1, 1) := by decide +kernel
theorem dL_law_510 : decode cL_law 510 = .ok (.iadd, 1) := by decide +kernel
theorem dL_law_511 : decode cL_law 511 = .ok (.iaload, 1) := by decide +kernel
theorem dL_law_512 : decode cL_law 512 = .ok (.invokevirtual 57, 3) := by decide +kernel
theorem dL_law_515 : decode cL_law 515 = .ok (.aload_n 2, 1) := by decide +kernel
theorem dL_law_516 : decode cL_law 516 = .ok (.aload_n 0, 1) := by decide +kernel
theorem dL_law_517 : decode cL_law 517 = .ok (.iload_n 3, 1) := by decide +kernel
theorem dL_law_518 : decode cL_law 518 = .ok (.iconst 1, 1) := by decide +kernel
theorem dL_law_519 : decode cL_law 519 = .ok (.iadd, 1) := by decide +kernel
theorem dL_law_520 : decode cL_law 520 = .ok (.iaload, 1) := by decide +kernel
theorem dL_law_521 : decode cL_law 521 = .ok (.invokevirtual 60, 3) := by decide +kernel
theorem dL_law_524 : decode cL_law 524 = .ok (.if_icmp .eq 448, 3) := by decide +kernel
theorem dL_law_527 : decode cL_law 527 = .ok (.iconst 0, 1) := by decide +kernel
theorem dL_law_528 : decode cL_law 528 = .ok (.ireturn, 1) := by decide +kernel
theorem dL_law_529 : decode cL_law 529 = .ok (.aload_n 1, 1) := by decide +kernel
theorem dL_law_530 : decode cL_law 530 = .ok (.aload_n 0, 1) := by decide +kernel
theorem dL_law_531 : decode cL_law 531 = .ok (.iload_n 3, 1) := by decide +kernel
theorem dL_law_532 : decode cL_law 532 = .ok (.iconst 1, 1) := by decide +kernel
theorem dL_law_533 : decode cL_law 533 = .ok (.iadd, 1) := by decide +kernel
theorem dL_law_534 : decode cL_law 534 = .ok (.iaload, 1) := by decide +kernel
theorem dL_law_535 : decode cL_law 535 = .ok (.invokevirtual 61, 3) := by decide +kernel
theorem dL_law_538 : decode cL_law 538 = .ok (.aload_n 2, 1) := by decide +kernel
theorem dL_law_539 : decode cL_law 539 = .ok (.aload_n 0, 1) := by decide +kernel
theorem dL_law_540 : decode cL_law 540 = .ok (.iload_n 3, 1) := by decide +kernel
theorem dL_law_541 : decode cL_law 541 = .ok (.iconst 1, 1) := by decide +kernel
theorem dL_law_542 : decode cL_law 542 = .ok (.iadd, 1) := by decide +kernel
theorem dL_law_543 : decode cL_law 543 = .ok (.iaload, 1) := by decide +kernel
theorem dL_law_544 : decode cL_law 544 = .ok (.invokevirtual 64, 3) := by decide +kernel
theorem dL_law_547 : decode cL_law 547 = .ok (.if_icmp .eq 425, 3) := by decide +kernel
theorem dL_law_550 : decode cL_law 550 = .ok (.iconst 0, 1) := by decide +kernel
theorem dL_law_551 : decode cL_law 551 = .ok (.ireturn, 1) := by decide +kernel
theorem dL_law_552 : decode cL_law 552 = .ok (.aload_n 1, 1) := by decide +kernel
theorem dL_law_553 : decode cL_law 553 = .ok (.invokevirtual 65, 3) := by decide +kernel
theorem dL_law_556 : decode cL_law 556 = .ok (.aload_n 2, 1) := by decide +kernel
theorem dL_law_557 : decode cL_law 557 = .ok (.invokevirtual 68, 3) := by decide +kernel
theorem dL_law_560 : decode cL_law 560 = .ok (.if_icmp .eq 412, 3) := by decide +kernel
theorem dL_law_563 : decode cL_law 563 = .ok (.iconst 0, 1) := by decide +kernel
theorem dL_law_564 : decode cL_law 564 = .ok (.ireturn, 1) := by decide +kernel
theorem dL_law_565 : decode cL_law 565 = .ok (.aload_n 1, 1) := by decide +kernel
theorem dL_law_566 : decode cL_law 566 = .ok (.aload_n 0, 1) := by decide +kernel
theorem dL_law_567 : decode cL_law 567 = .ok (.iload_n 3, 1) := by decide +kernel
theorem dL_law_568 : decode cL_law 568 = .ok (.iconst 1, 1) := by decide +kernel
theorem dL_law_569 : decode cL_law 569 = .ok (.iadd, 1) := by decide +kernel
theorem dL_law_570 : decode cL_law 570 = .ok (.iaload, 1) := by decide +kernel
theorem dL_law_571 : decode cL_law 571 = .ok (.aload_n 0, 1) := by decide +kernel
theorem dL_law_572 : decode cL_law 572 = .ok (.iload_n 3, 1) := by decide +kernel
theorem dL_law_573 : decode cL_law 573 = .ok (.iconst 2, 1) := by decide +kernel
theorem dL_law_574 : decode cL_law 574 = .ok (.iadd, 1) := by decide +kernel
theorem dL_law_575 : decode cL_law 575 = .ok (.iaload, 1) := by decide +kernel
theorem dL_law_576 : decode cL_law 576 = .ok (.invokevirtual 69, 3) := by decide +kernel
theorem dL_law_579 : decode cL_law 579 = .ok (.aload_n 2, 1) := by decide +kernel
theorem dL_law_580 : decode cL_law 580 = .ok (.aload_n 0, 1) := by decide +kernel
theorem dL_law_581 : decode cL_law 581 = .ok (.iload_n 3, 1) := by decide +kernel
theorem dL_law_582 : decode cL_law 582 = .ok (.iconst 1, 1) := by decide +kernel
theorem dL_law_583 : decode cL_law 583 = .ok (.iadd, 1) := by decide +kernel
theorem dL_law_584 : decode cL_law 584 = .ok (.iaload, 1) := by decide +kernel
theorem dL_law_585 : decode cL_law 585 = .ok (.aload_n 0, 1) := by decide +kernel
theorem dL_law_586 : decode cL_law 586 = .ok (.iload_n 3, 1) := by decide +kernel
theorem dL_law_587 : decode cL_law 587 = .ok (.iconst 2, 1) := by decide +kernel
theorem dL_law_588 : decode cL_law 588 = .ok (.iadd, 1) := by decide +kernel
theorem dL_law_589 : decode cL_law 589 = .ok (.iaload, 1) := by decide +kernel
theorem dL_law_590 : decode cL_law 590 = .ok (.invokevirtual 72, 3) := by decide +kernel
theorem dL_law_593 : decode cL_law 593 = .ok (.if_icmp .eq 379, 3) := by decide +kernel
theorem dL_law_596 : decode cL_law 596 = .ok (.iconst 0, 1) := by decide +kernel
theorem dL_law_597 : decode cL_law 597 = .ok (.ireturn, 1) := by decide +kernel
theorem dL_law_598 : decode cL_law 598 = .ok (.aload_n 1, 1) := by decide +kernel
theorem dL_law_599 : decode cL_law 599 = .ok (.aload_n 0, 1) := by decide +kernel
theorem dL_law_600 : decode cL_law 600 = .ok (.iload_n 3, 1) := by decide +kernel
theorem dL_law_601 : decode cL_law 601 = .ok (.iconst 1, 1) := by decide +kernel
theorem dL_law_602 : decode cL_law 602 = .ok (.iadd, 1) := by decide +kernel
theorem dL_law_603 : decode cL_law 603 = .ok (.iaload, 1) := by decide +kernel
theorem dL_law_604 : decode cL_law 604 = .ok (.aload_n 0, 1) := by decide +kernel
theorem dL_law_605 : decode cL_law 605 = .ok (.iload_n 3, 1) := by decide +kernel
theorem dL_law_606 : decode cL_law 606 = .ok (.iconst 2, 1) := by decide +kernel
theorem dL_law_607 : decode cL_law 607 = .ok (.iadd, 1) := by decide +kernel
theorem dL_law_608 : decode cL_law 608 = .ok (.iaload, 1) := by decide +kernel
theorem dL_law_609 : decode cL_law 609 = .ok (.invokevirtual 73, 3) := by decide +kernel
theorem dL_law_612 : decode cL_law 612 = .ok (.aload_n 2, 1) := by decide +kernel
theorem dL_law_613 : decode cL_law 613 = .ok (.aload_n 0, 1) := by decide +kernel
theorem dL_law_614 : decode cL_law 614 = .ok (.iload_n 3, 1) := by decide +kernel
theorem dL_law_615 : decode cL_law 615 = .ok (.iconst 1, 1) := by decide +kernel
theorem dL_law_616 : decode cL_law 616 = .ok (.iadd, 1) := by decide +kernel
theorem dL_law_617 : decode cL_law 617 = .ok (.iaload, 1) := by decide +kernel
theorem dL_law_618 : decode cL_law 618 = .ok (.aload_n 0, 1) := by decide +kernel
theorem dL_law_619 : decode cL_law 619 = .ok (.iload_n 3, 1) := by decide +kernel
theorem dL_law_620 : decode cL_law 620 = .ok (.iconst 2, 1) := by decide +kernel
theorem dL_law_621 : decode cL_law 621 = .ok (.iadd, 1) := by decide +kernel
theorem dL_law_622 : decode cL_law 622 = .ok (.iaload, 1) := by decide +kernel
theorem dL_law_623 : decode cL_law 623 = .ok (.invokevirtual 76, 3) := by decide +kernel
theorem dL_law_626 : decode cL_law 626 = .ok (.if_icmp .eq 346, 3) := by decide +kernel
theorem dL_law_629 : decode cL_law 629 = .ok (.iconst 0, 1) := by decide +kernel
theorem dL_law_630 : decode cL_law 630 = .ok (.ireturn, 1) := by decide +kernel
theorem dL_law_631 : decode cL_law 631 = .ok (.aload_n 1, 1) := by decide +kernel
theorem dL_law_632 : decode cL_law 632 = .ok (.invokevirtual 77, 3) := by decide +kernel
theorem dL_law_635 : decode cL_law 635 = .ok (.aload_n 2, 1) := by decide +kernel
theorem dL_law_636 : decode cL_law 636 = .ok (.invokevirtual 80, 3) := by decide +kernel
theorem dL_law_639 : decode cL_law 639 = .ok (.if_icmp .eq 333, 3) := by decide +kernel
theorem dL_law_642 : decode cL_law 642 = .ok (.iconst 0, 1) := by decide +kernel
theorem dL_law_643 : decode cL_law 643 = .ok (.ireturn, 1) := by decide +kernel
theorem dL_law_644 : decode cL_law 644 = .ok (.aload_n 1, 1) := by decide +kernel
theorem dL_law_645 : decode cL_law 645 = .ok (.aload_n 0, 1) := by decide +kernel
theorem dL_law_646 : decode cL_law 646 = .ok (.iload_n 3, 1) := by decide +kernel
theorem dL_law_647 : decode cL_law 647 = .ok (.iconst 1, 1) := by decide +kernel
theorem dL_law_648 : decode cL_law 648 = .ok (.iadd, 1) := by decide +kernel
theorem dL_law_649 : decode cL_law 649 = .ok (.iaload, 1) := by decide +kernel
theorem dL_law_650 : decode cL_law 650 = .ok (.invokevirtual 81, 3) := by decide +kernel
theorem dL_law_653 : decode cL_law 653 = .ok (.aload_n 2, 1) := by decide +kernel
theorem dL_law_654 : decode cL_law 654 = .ok (.aload_n 0, 1) := by decide +kernel
theorem dL_law_655 : decode cL_law 655 = .ok (.iload_n 3, 1) := by decide +kernel
theorem dL_law_656 : decode cL_law 656 = .ok (.iconst 1, 1) := by decide +kernel
theorem dL_law_657 : decode cL_law 657 = .ok (.iadd, 1) := by decide +kernel
theorem dL_law_658 : decode cL_law 658 = .ok (.iaload, 1) := by decide +kernel
theorem dL_law_659 : decode cL_law 659 = .ok (.invokevirtual 84, 3) := by decide +kernel
theorem dL_law_662 : decode cL_law 662 = .ok (.if_icmp .eq 310, 3) := by decide +kernel
theorem dL_law_665 : decode cL_law 665 = .ok (.iconst 0, 1) := by decide +kernel
theorem dL_law_666 : decode cL_law 666 = .ok (.ireturn, 1) := by decide +kernel
theorem dL_law_667 : decode cL_law 667 = .ok (.aload_n 1, 1) := by decide +kernel
theorem dL_law_668 : decode cL_law 668 = .ok (.invokevirtual 85, 3) := by decide +kernel
theorem dL_law_671 : decode cL_law 671 = .ok (.aload_n 2, 1) := by decide +kernel
theorem dL_law_672 : decode cL_law 672 = .ok (.invokevirtual 88, 3) := by decide +kernel
theorem dL_law_675 : decode cL_law 675 = .ok (.if_icmp .eq 297, 3) := by decide +kernel
theorem dL_law_678 : decode cL_law 678 = .ok (.iconst 0, 1) := by decide +kernel
theorem dL_law_679 : decode cL_law 679 = .ok (.ireturn, 1) := by decide +kernel
theorem dL_law_680 : decode cL_law 680 = .ok (.aload_n 1, 1) := by decide +kernel
theorem dL_law_681 : decode cL_law 681 = .ok (.aload_n 0, 1) := by decide +kernel
theorem dL_law_682 : decode cL_law 682 = .ok (.iload_n 3, 1) := by decide +kernel
theorem dL_law_683 : decode cL_law 683 = .ok (.iconst 1, 1) := by decide +kernel
theorem dL_law_684 : decode cL_law 684 = .ok (.iadd, 1) := by decide +kernel
theorem dL_law_685 : decode cL_law 685 = .ok (.iaload, 1) := by decide +kernel
theorem dL_law_686 : decode cL_law 686 = .ok (.aload_n 0, 1) := by decide +kernel
theorem dL_law_687 : decode cL_law 687 = .ok (.iload_n 3, 1) := by decide +kernel
theorem dL_law_688 : decode cL_law 688 = .ok (.iconst 2, 1) := by decide +kernel
theorem dL_law_689 : decode cL_law 689 = .ok (.iadd, 1) := by decide +kernel
theorem dL_law_690 : decode cL_law 690 = .ok (.iaload, 1) := by decide +kernel
theorem dL_law_691 : decode cL_law 691 = .ok (.invokevirtual 89, 3) := by decide +kernel
theorem dL_law_694 : decode cL_law 694 = .ok (.aload_n 2, 1) := by decide +kernel
theorem dL_law_695 : decode cL_law 695 = .ok (.aload_n 0, 1) := by decide +kernel
theorem dL_law_696 : decode cL_law 696 = .ok (.iload_n 3, 1) := by decide +kernel
theorem dL_law_697 : decode cL_law 697 = .ok (.iconst 1, 1) := by decide +kernel
theorem dL_law_698 : decode cL_law 698 = .ok (.iadd, 1) := by decide +kernel
theorem dL_law_699 : decode cL_law 699 = .ok (.iaload, 1) := by decide +kernel
theorem dL_law_700 : decode cL_law 700 = .ok (.aload_n 0, 1) := by decide +kernel
theorem dL_law_701 : decode cL_law 701 = .ok (.iload_n 3, 1) := by decide +kernel
theorem dL_law_702 : decode cL_law 702 = .ok (.iconst 2, 1) := by decide +kernel
theorem dL_law_703 : decode cL_law 703 = .ok (.iadd, 1) := by decide +kernel
theorem dL_law_704 : decode cL_law 704 = .ok (.iaload, 1) := by decide +kernel
theorem dL_law_705 : decode cL_law 705 = .ok (.invokevirtual 92, 3) := by decide +kernel
theorem dL_law_708 : decode cL_law 708 = .ok (.if_icmp .eq 264, 3) := by decide +kernel
theorem dL_law_711 : decode cL_law 711 = .ok (.iconst 0, 1) := by decide +kernel
theorem dL_law_712 : decode cL_law 712 = .ok (.ireturn, 1) := by decide +kernel
theorem dL_law_713 : decode cL_law 713 = .ok (.aload_n 1, 1) := by decide +kernel
theorem dL_law_714 : decode cL_law 714 = .ok (.aload_n 0, 1) := by decide +kernel
theorem dL_law_715 : decode cL_law 715 = .ok (.iload_n 3, 1) := by decide +kernel
theorem dL_law_716 : decode cL_law 716 = .ok (.iconst 1, 1) := by decide +kernel
theorem dL_law_717 : decode cL_law 717 = .ok (.iadd, 1) := by decide +kernel
theorem dL_law_718 : decode cL_law 718 = .ok (.iaload, 1) := by decide +kernel
theorem dL_law_719 : decode cL_law 719 = .ok (.invokevirtual 93, 3) := by decide +kernel
theorem dL_law_722 : decode cL_law 722 = .ok (.aload_n 2, 1) := by decide +kernel
theorem dL_law_723 : decode cL_law 723 = .ok (.aload_n 0, 1) := by decide +kernel
theorem dL_law_724 : decode cL_law 724 = .ok (.iload_n 3, 1) := by decide +kernel
theorem dL_law_725 : decode cL_law 725 = .ok (.iconst 1, 1) := by decide +kernel
theorem dL_law_726 : decode cL_law 726 = .ok (.iadd, 1) := by decide +kernel
theorem dL_law_727 : decode cL_law 727 = .ok (.iaload, 1) := by decide +kernel
theorem dL_law_728 : decode cL_law 728 = .ok (.invokevirtual 96, 3) := by decide +kernel
theorem dL_law_731 : decode cL_law 731 = .ok (.if_icmp .eq 241, 3) := by decide +kernel
theorem dL_law_734 : decode cL_law 734 = .ok (.iconst 0, 1) := by decide +kernel
theorem dL_law_735 : decode cL_law 735 = .ok (.ireturn, 1) := by decide +kernel
theorem dL_law_736 : decode cL_law 736 = .ok (.aload_n 1, 1) := by decide +kernel
theorem dL_law_737 : decode cL_law 737 = .ok (.invokevirtual 97, 3) := by decide +kernel
theorem dL_law_740 : decode cL_law 740 = .ok (.aload_n 2, 1) := by decide +kernel
theorem dL_law_741 : decode cL_law 741 = .ok (.invokevirtual 100, 3) := by decide +kernel
theorem dL_law_744 : decode cL_law 744 = .ok (.if_icmp .eq 228, 3) := by decide +kernel
theorem dL_law_747 : decode cL_law 747 = .ok (.iconst 0, 1) := by decide +kernel
theorem dL_law_748 : decode cL_law 748 = .ok (.ireturn, 1) := by decide +kernel
theorem dL_law_749 : decode cL_law 749 = .ok (.aload_n 1, 1) := by decide +kernel
theorem dL_law_750 : decode cL_law 750 = .ok (.aload_n 0, 1) := by decide +kernel
theorem dL_law_751 : decode cL_law 751 = .ok (.iload_n 3, 1) := by decide +kernel
theorem dL_law_752 : decode cL_law 752 = .ok (.iconst 1, 1) := by decide +kernel
theorem dL_law_753 : decode cL_law 753 = .ok (.iadd, 1) := by decide +kernel
theorem dL_law_754 : decode cL_law 754 = .ok (.iaload, 1) := by decide +kernel
theorem dL_law_755 : decode cL_law 755 = .ok (.aload_n 0, 1) := by decide +kernel
theorem dL_law_756 : decode cL_law 756 = .ok (.iload_n 3, 1) := by decide +kernel
theorem dL_law_757 : decode cL_law 757 = .ok (.iconst 2, 1) := by decide +kernel
theorem dL_law_758 : decode cL_law 758 = .ok (.iadd, 1) := by decide +kernel
theorem dL_law_759 : decode cL_law 759 = .ok (.iaload, 1) := by decide +kernel
theorem dL_law_760 : decode cL_law 760 = .ok (.invokevirtual 101, 3) := by decide +kernel
theorem dL_law_763 : decode cL_law 763 = .ok (.aload_n 2, 1) := by decide +kernel
theorem dL_law_764 : decode cL_law 764 = .ok (.aload_n 0, 1) := by decide +kernel
theorem dL_law_765 : decode cL_law 765 = .ok (.iload_n 3, 1) := by decide +kernel
theorem dL_law_766 : decode cL_law 766 = .ok (.iconst 1, 1) := by decide +kernel
theorem dL_law_767 : decode cL_law 767 = .ok (.iadd, 1) := by decide +kernel
theorem dL_law_768 : decode cL_law 768 = .ok (.iaload, 1) := by decide +kernel
theorem dL_law_769 : decode cL_law 769 = .ok (.aload_n 0, 1) := by decide +kernel
theorem dL_law_770 : decode cL_law 770 = .ok (.iload_n 3, 1) := by decide +kernel
theorem dL_law_771 : decode cL_law 771 = .ok (.iconst 2, 1) := by decide +kernel
theorem dL_law_772 : decode cL_law 772 = .ok (.iadd, 1) := by decide +kernel
theorem dL_law_773 : decode cL_law 773 = .ok (.iaload, 1) := by decide +kernel
theorem dL_law_774 : decode cL_law 774 = .ok (.invokevirtual 104, 3) := by decide +kernel
theorem dL_law_777 : decode cL_law 777 = .ok (.if_icmp .eq 195, 3) := by decide +kernel
theorem dL_law_780 : decode cL_law 780 = .ok (.iconst 0, 1) := by decide +kernel
theorem dL_law_781 : decode cL_law 781 = .ok (.ireturn, 1) := by decide +kernel
theorem dL_law_782 : decode cL_law 782 = .ok (.aload_n 1, 1) := by decide +kernel
theorem dL_law_783 : decode cL_law 783 = .ok (.invokevirtual 105, 3) := by decide +kernel
theorem dL_law_786 : decode cL_law 786 = .ok (.aload_n 2, 1) := by decide +kernel
theorem dL_law_787 : decode cL_law 787 = .ok (.invokevirtual 108, 3) := by decide +kernel
theorem dL_law_790 : decode cL_law 790 = .ok (.if_icmp .eq 182, 3) := by decide +kernel
theorem dL_law_793 : decode cL_law 793 = .ok (.iconst 0, 1) := by decide +kernel
theorem dL_law_794 : decode cL_law 794 = .ok (.ireturn, 1) := by decide +kernel
theorem dL_law_795 : decode cL_law 795 = .ok (.aload_n 1, 1) := by decide +kernel
theorem dL_law_796 : decode cL_law 796 = .ok (.aload_n 0, 1) := by decide +kernel
theorem dL_law_797 : decode cL_law 797 = .ok (.iload_n 3, 1) := by decide +kernel
theorem dL_law_798 : decode cL_law 798 = .ok (.iconst 1, 1) := by decide +kernel
theorem dL_law_799 : decode cL_law 799 = .ok (.iadd, 1) := by decide +kernel
theorem dL_law_800 : decode cL_law 800 = .ok (.iaload, 1) := by decide +kernel
theorem dL_law_801 : decode cL_law 801 = .ok (.invokevirtual 109, 3) := by decide +kernel
theorem dL_law_804 : decode cL_law 804 = .ok (.aload_n 2, 1) := by decide +kernel
theorem dL_law_805 : decode cL_law 805 = .ok (.aload_n 0, 1) := by decide +kernel
theorem dL_law_806 : decode cL_law 806 = .ok (.iload_n 3, 1) := by decide +kernel
theorem dL_law_807 : decode cL_law 807 = .ok (.iconst 1, 1) := by decide +kernel
theorem dL_law_808 : decode cL_law 808 = .ok (.iadd, 1) := by decide +kernel
theorem dL_law_809 : decode cL_law 809 = .ok (.iaload, 1) := by decide +kernel
theorem dL_law_810 : decode cL_law 810 = .ok (.invokevirtual 112, 3) := by decide +kernel
theorem dL_law_813 : decode cL_law 813 = .ok (.if_icmp .eq 159, 3) := by decide +kernel
theorem dL_law_816 : decode cL_law 816 = .ok (.iconst 0, 1) := by decide +kernel
theorem dL_law_817 : decode cL_law 817 = .ok (.ireturn, 1) := by decide +kernel
theorem dL_law_818 : decode cL_law 818 = .ok (.aload_n 1, 1) := by decide +kernel
theorem dL_law_819 : decode cL_law 819 = .ok (.invokevirtual 113, 3) := by decide +kernel
theorem dL_law_822 : decode cL_law 822 = .ok (.aload_n 2, 1) := by decide +kernel
theorem dL_law_823 : decode cL_law 823 = .ok (.invokevirtual 116, 3) := by decide +kernel
theorem dL_law_826 : decode cL_law 826 = .ok (.if_icmp .eq 146, 3) := by decide +kernel
theorem dL_law_829 : decode cL_law 829 = .ok (.iconst 0, 1) := by decide +kernel
theorem dL_law_830 : decode cL_law 830 = .ok (.ireturn, 1) := by decide +kernel
theorem dL_law_831 : decode cL_law 831 = .ok (.aload_n 1, 1) := by decide +kernel
theorem dL_law_832 : decode cL_law 832 = .ok (.aload_n 0, 1) := by decide +kernel
theorem dL_law_833 : decode cL_law 833 = .ok (.iload_n 3, 1) := by decide +kernel
theorem dL_law_834 : decode cL_law 834 = .ok (.iconst 1, 1) := by decide +kernel
theorem dL_law_835 : decode cL_law 835 = .ok (.iadd, 1) := by decide +kernel
theorem dL_law_836 : decode cL_law 836 = .ok (.iaload, 1) := by decide +kernel
theorem dL_law_837 : decode cL_law 837 = .ok (.aload_n 0, 1) := by decide +kernel
theorem dL_law_838 : decode cL_law 838 = .ok (.iload_n 3, 1) := by decide +kernel
theorem dL_law_839 : decode cL_law 839 = .ok (.iconst 2, 1) := by decide +kernel
theorem dL_law_840 : decode cL_law 840 = .ok (.iadd, 1) := by decide +kernel
theorem dL_law_841 : decode cL_law 841 = .ok (.iaload, 1) := by decide +kernel
theorem dL_law_842 : decode cL_law 842 = .ok (.invokevirtual 117, 3) := by decide +kernel
theorem dL_law_845 : decode cL_law 845 = .ok (.aload_n 2, 1) := by decide +kernel
theorem dL_law_846 : decode cL_law 846 = .ok (.aload_n 0, 1) := by decide +kernel
theorem dL_law_847 : decode cL_law 847 = .ok (.iload_n 3, 1) := by decide +kernel
theorem dL_law_848 : decode cL_law 848 = .ok (.iconst 1, 1) := by decide +kernel
theorem dL_law_849 : decode cL_law 849 = .ok (.iadd, 1) := by decide +kernel
theorem dL_law_850 : decode cL_law 850 = .ok (.iaload, 1) := by decide +kernel
theorem dL_law_851 : decode cL_law 851 = .ok (.aload_n 0, 1) := by decide +kernel
theorem dL_law_852 : decode cL_law 852 = .ok (.iload_n 3, 1) := by decide +kernel
theorem dL_law_853 : decode cL_law 853 = .ok (.iconst 2, 1) := by decide +kernel
theorem dL_law_854 : decode cL_law 854 = .ok (.iadd, 1) := by decide +kernel
theorem dL_law_855 : decode cL_law 855 = .ok (.iaload, 1) := by decide +kernel
theorem dL_law_856 : decode cL_law 856 = .ok (.invokevirtual 120, 3) := by decide +kernel
theorem dL_law_859 : decode cL_law 859 = .ok (.if_icmp .eq 113, 3) := by decide +kernel
theorem dL_law_862 : decode cL_law 862 = .ok (.iconst 0, 1) := by decide +kernel
theorem dL_law_863 : decode cL_law 863 = .ok (.ireturn, 1) := by decide +kernel
theorem dL_law_864 : decode cL_law 864 = .ok (.aload_n 1, 1) := by decide +kernel
theorem dL_law_865 : decode cL_law 865 = .ok (.aload_n 0, 1) := by decide +kernel
theorem dL_law_866 : decode cL_law 866 = .ok (.iload_n 3, 1) := by decide +kernel
theorem dL_law_867 : decode cL_law 867 = .ok (.iconst 1, 1) := by decide +kernel
theorem dL_law_868 : decode cL_law 868 = .ok (.iadd, 1) := by decide +kernel
theorem dL_law_869 : decode cL_law 869 = .ok (.iaload, 1) := by decide +kernel
theorem dL_law_870 : decode cL_law 870 = .ok (.invokevirtual 121, 3) := by decide +kernel
theorem dL_law_873 : decode cL_law 873 = .ok (.aload_n 2, 1) := by decide +kernel
theorem dL_law_874 : decode cL_law 874 = .ok (.aload_n 0, 1) := by decide +kernel
theorem dL_law_875 : decode cL_law 875 = .ok (.iload_n 3, 1) := by decide +kernel
theorem dL_law_876 : decode cL_law 876 = .ok (.iconst 1, 1) := by decide +kernel
theorem dL_law_877 : decode cL_law 877 = .ok (.iadd, 1) := by decide +kernel
theorem dL_law_878 : decode cL_law 878 = .ok (.iaload, 1) := by decide +kernel
theorem dL_law_879 : decode cL_law 879 = .ok (.invokevirtual 124, 3) := by decide +kernel
theorem dL_law_882 : decode cL_law 882 = .ok (.if_icmp .eq 90, 3) := by decide +kernel
theorem dL_law_885 : decode cL_law 885 = .ok (.iconst 0, 1) := by decide +kernel
theorem dL_law_886 : decode cL_law 886 = .ok (.ireturn, 1) := by decide +kernel
theorem dL_law_887 : decode cL_law 887 = .ok (.aload_n 1, 1) := by decide +kernel
theorem dL_law_888 : decode cL_law 888 = .ok (.invokevirtual 125, 3) := by decide +kernel
theorem dL_law_891 : decode cL_law 891 = .ok (.aload_n 2, 1) := by decide +kernel
theorem dL_law_892 : decode cL_law 892 = .ok (.invokevirtual 128, 3) := by decide +kernel
theorem dL_law_895 : decode cL_law 895 = .ok (.if_icmp .eq 77, 3) := by decide +kernel
theorem dL_law_898 : decode cL_law 898 = .ok (.iconst 0, 1) := by decide +kernel
theorem dL_law_899 : decode cL_law 899 = .ok (.ireturn, 1) := by decide +kernel
theorem dL_law_900 : decode cL_law 900 = .ok (.aload_n 1, 1) := by decide +kernel
theorem dL_law_901 : decode cL_law 901 = .ok (.aload_n 0, 1) := by decide +kernel
theorem dL_law_902 : decode cL_law 902 = .ok (.iload_n 3, 1) := by decide +kernel
theorem dL_law_903 : decode cL_law 903 = .ok (.iconst 1, 1) := by decide +kernel
theorem dL_law_904 : decode cL_law 904 = .ok (.iadd, 1) := by decide +kernel
theorem dL_law_905 : decode cL_law 905 = .ok (.iaload, 1) := by decide +kernel
theorem dL_law_906 : decode cL_law 906 = .ok (.invokevirtual 129, 3) := by decide +kernel
theorem dL_law_909 : decode cL_law 909 = .ok (.aload_n 2, 1) := by decide +kernel
theorem dL_law_910 : decode cL_law 910 = .ok (.aload_n 0, 1) := by decide +kernel
theorem dL_law_911 : decode cL_law 911 = .ok (.iload_n 3, 1) := by decide +kernel
theorem dL_law_912 : decode cL_law 912 = .ok (.iconst 1, 1) := by decide +kernel
theorem dL_law_913 : decode cL_law 913 = .ok (.iadd, 1) := by decide +kernel
theorem dL_law_914 : decode cL_law 914 = .ok (.iaload, 1) := by decide +kernel
theorem dL_law_915 : decode cL_law 915 = .ok (.invokevirtual 132, 3) := by decide +kernel
theorem dL_law_918 : decode cL_law 918 = .ok (.if_icmp .eq 54, 3) := by decide +kernel
theorem dL_law_921 : decode cL_law 921 = .ok (.iconst 0, 1) := by decide +kernel
theorem dL_law_922 : decode cL_law 922 = .ok (.ireturn, 1) := by decide +kernel
theorem dL_law_923 : decode cL_law 923 = .ok (.aload_n 1, 1) := by decide +kernel
theorem dL_law_924 : decode cL_law 924 = .ok (.invokevirtual 133, 3) := by decide +kernel
theorem dL_law_927 : decode cL_law 927 = .ok (.aload_n 2, 1) := by decide +kernel
theorem dL_law_928 : decode cL_law 928 = .ok (.invokevirtual 136, 3) := by decide +kernel
theorem dL_law_931 : decode cL_law 931 = .ok (.if_icmp .eq 41, 3) := by decide +kernel
theorem dL_law_934 : decode cL_law 934 = .ok (.iconst 0, 1) := by decide +kernel
theorem dL_law_935 : decode cL_law 935 = .ok (.ireturn, 1) := by decide +kernel
theorem dL_law_936 : decode cL_law 936 = .ok (.aload_n 1, 1) := by decide +kernel
theorem dL_law_937 : decode cL_law 937 = .ok (.aload_n 0, 1) := by decide +kernel
theorem dL_law_938 : decode cL_law 938 = .ok (.iload_n 3, 1) := by decide +kernel
theorem dL_law_939 : decode cL_law 939 = .ok (.iconst 1, 1) := by decide +kernel
theorem dL_law_940 : decode cL_law 940 = .ok (.iadd, 1) := by decide +kernel
theorem dL_law_941 : decode cL_law 941 = .ok (.iaload, 1) := by decide +kernel
theorem dL_law_942 : decode cL_law 942 = .ok (.invokevirtual 137, 3) := by decide +kernel
theorem dL_law_945 : decode cL_law 945 = .ok (.aload_n 2, 1) := by decide +kernel
theorem dL_law_946 : decode cL_law 946 = .ok (.aload_n 0, 1) := by decide +kernel
theorem dL_law_947 : decode cL_law 947 = .ok (.iload_n 3, 1) := by decide +kernel
theorem dL_law_948 : decode cL_law 948 = .ok (.iconst 1, 1) := by decide +kernel
theorem dL_law_949 : decode cL_law 949 = .ok (.iadd, 1) := by decide +kernel
theorem dL_law_950 : decode cL_law 950 = .ok (.iaload, 1) := by decide +kernel
theorem dL_law_951 : decode cL_law 951 = .ok (.invokevirtual 140, 3) := by decide +kernel
theorem dL_law_954 : decode cL_law 954 = .ok (.if_icmp .eq 18, 3) := by decide +kernel
theorem dL_law_957 : decode cL_law 957 = .ok (.iconst 0, 1) := by decide +kernel
theorem dL_law_958 : decode cL_law 958 = .ok (.ireturn, 1) := by decide +kernel
theorem dL_law_959 : decode cL_law 959 = .ok (.aload_n 1, 1) := by decide +kernel
theorem dL_law_960 : decode cL_law 960 = .ok (.invokevirtual 141, 3) := by decide +kernel
theorem dL_law_963 : decode cL_law 963 = .ok (.aload_n 2, 1) := by decide +kernel
theorem dL_law_964 : decode cL_law 964 = .ok (.invokevirtual 144, 3) := by decide +kernel
theorem dL_law_967 : decode cL_law 967 = .ok (.if_icmp .eq 5, 3) := by decide +kernel
theorem dL_law_970 : decode cL_law 970 = .ok (.iconst 0, 1) := by decide +kernel
theorem dL_law_971 : decode cL_law 971 = .ok (.ireturn, 1) := by decide +kernel
theorem dL_law_972 : decode cL_law 972 = .ok (.iinc 3 5, 3) := by decide +kernel
theorem dL_law_975 : decode cL_law 975 = .ok (.goto (-957), 3) := by decide +kernel
theorem dL_law_978 : decode cL_law 978 = .ok (.iconst 1, 1) := by decide +kernel
theorem dL_law_979 : decode cL_law 979 = .ok (.ireturn, 1) := by decide +kernel
