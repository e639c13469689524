theorem dX5_dryTimeFor_63 : decode cX5_dryTimeFor 63 = .ok (.iaload, 1) := by decide +kernel
theorem dX5_dryTimeFor_64 : decode cX5_dryTimeFor 64 = .ok (.invokestatic 130, 3) := by decide +kernel
theorem dX5_dryTimeFor_67 : decode cX5_dryTimeFor 67 = .ok (.istore_n 2, 1) := by decide +kernel
theorem dX5_dryTimeFor_68 : decode cX5_dryTimeFor 68 = .ok (.iinc 3 1, 3) := by decide +kernel
theorem dX5_dryTimeFor_71 : decode cX5_dryTimeFor 71 = .ok (.goto (-67), 3) := by decide +kernel
theorem dX5_dryTimeFor_74 : decode cX5_dryTimeFor 74 = .ok (.iload_n 2, 1) := by decide +kernel
theorem dX5_dryTimeFor_75 : decode cX5_dryTimeFor 75 = .ok (.ireturn, 1) := by decide +kernel
theorem dX5_reasonAgainst_0 : decode cX5_reasonAgainst 0 = .ok (.aload_n 0, 1) := by decide +kernel
theorem dX5_reasonAgainst_1 : decode cX5_reasonAgainst 1 = .ok (.getfield 26, 3) := by decide +kernel
theorem dX5_reasonAgainst_4 : decode cX5_reasonAgainst 4 = .ok (.aload_n 0, 1) := by decide +kernel
theorem dX5_reasonAgainst_5 : decode cX5_reasonAgainst 5 = .ok (.getfield 41, 3) := by decide +kernel
theorem dX5_reasonAgainst_8 : decode cX5_reasonAgainst 8 = .ok (.invokevirtual 100, 3) := by decide +kernel
theorem dX5_reasonAgainst_11 : decode cX5_reasonAgainst 11 = .ok (.ifCond .ne 5, 3) := by decide +kernel
theorem dX5_reasonAgainst_14 : decode cX5_reasonAgainst 14 = .ok (.iconst 1, 1) := by decide +kernel
theorem dX5_reasonAgainst_15 : decode cX5_reasonAgainst 15 = .ok (.ireturn, 1) := by decide +kernel
theorem dX5_reasonAgainst_16 : decode cX5_reasonAgainst 16 = .ok (.aload_n 0, 1) := by decide +kernel
theorem dX5_reasonAgainst_17 : decode cX5_reasonAgainst 17 = .ok (.getfield 33, 3) := by decide +kernel
theorem dX5_reasonAgainst_20 : decode cX5_reasonAgainst 20 = .ok (.iload_n 1, 1) := by decide +kernel
theorem dX5_reasonAgainst_21 : decode cX5_reasonAgainst 21 = .ok (.invokevirtual 81, 3) := by decide +kernel
theorem dX5_reasonAgainst_24 : decode cX5_reasonAgainst 24 = .ok (.ifCond .eq 5, 3) := by decide +kernel
theorem dX5_reasonAgainst_27 : decode cX5_reasonAgainst 27 = .ok (.iconst 2, 1) := by decide +kernel
theorem dX5_reasonAgainst_28 : decode cX5_reasonAgainst 28 = .ok (.ireturn, 1) := by decide +kernel
theorem dX5_reasonAgainst_29 : decode cX5_reasonAgainst 29 = .ok (.aload_n 0, 1) := by decide +kernel
theorem dX5_reasonAgainst_30 : decode cX5_reasonAgainst 30 = .ok (.aload_n 0, 1) := by decide +kernel
theorem dX5_reasonAgainst_31 : decode cX5_reasonAgainst 31 = .ok (.getfield 41, 3) := by decide +kernel
theorem dX5_reasonAgainst_34 : decode cX5_reasonAgainst 34 = .ok (.invokevirtual 135, 3) := by decide +kernel
theorem dX5_reasonAgainst_37 : decode cX5_reasonAgainst 37 = .ok (.ifCond .eq 5, 3) := by decide +kernel
theorem dX5_reasonAgainst_40 : decode cX5_reasonAgainst 40 = .ok (.iconst 3, 1) := by decide +kernel
theorem dX5_reasonAgainst_41 : decode cX5_reasonAgainst 41 = .ok (.ireturn, 1) := by decide +kernel
theorem dX5_reasonAgainst_42 : decode cX5_reasonAgainst 42 = .ok (.aload_n 0, 1) := by decide +kernel
theorem dX5_reasonAgainst_43 : decode cX5_reasonAgainst 43 = .ok (.getfield 26, 3) := by decide +kernel
theorem dX5_reasonAgainst_46 : decode cX5_reasonAgainst 46 = .ok (.getfield 138, 3) := by decide +kernel
theorem dX5_reasonAgainst_49 : decode cX5_reasonAgainst 49 = .ok (.aload_n 0, 1) := by decide +kernel
theorem dX5_reasonAgainst_50 : decode cX5_reasonAgainst 50 = .ok (.getfield 41, 3) := by decide +kernel
theorem dX5_reasonAgainst_53 : decode cX5_reasonAgainst 53 = .ok (.iaload, 1) := by decide +kernel
theorem dX5_reasonAgainst_54 : decode cX5_reasonAgainst 54 = .ok (.aload_n 0, 1) := by decide +kernel
theorem dX5_reasonAgainst_55 : decode cX5_reasonAgainst 55 = .ok (.aload_n 0, 1) := by decide +kernel
theorem dX5_reasonAgainst_56 : decode cX5_reasonAgainst 56 = .ok (.getfield 41, 3) := by decide +kernel
theorem dX5_reasonAgainst_59 : decode cX5_reasonAgainst 59 = .ok (.iload_n 1, 1) := by decide +kernel
theorem dX5_reasonAgainst_60 : decode cX5_reasonAgainst 60 = .ok (.invokevirtual 141, 3) := by decide +kernel
theorem dX5_reasonAgainst_63 : decode cX5_reasonAgainst 63 = .ok (.if_icmp .ge 5, 3) := by decide +kernel
theorem dX5_reasonAgainst_66 : decode cX5_reasonAgainst 66 = .ok (.iconst 4, 1) := by decide +kernel
theorem dX5_reasonAgainst_67 : decode cX5_reasonAgainst 67 = .ok (.ireturn, 1) := by decide +kernel
theorem dX5_reasonAgainst_68 : decode cX5_reasonAgainst 68 = .ok (.iload_n 3, 1) := by decide +kernel
theorem dX5_reasonAgainst_69 : decode cX5_reasonAgainst 69 = .ok (.aload_n 0, 1) := by decide +kernel
theorem dX5_reasonAgainst_70 : decode cX5_reasonAgainst 70 = .ok (.iload_n 1, 1) := by decide +kernel
theorem dX5_reasonAgainst_71 : decode cX5_reasonAgainst 71 = .ok (.iload_n 2, 1) := by decide +kernel
theorem dX5_reasonAgainst_72 : decode cX5_reasonAgainst 72 = .ok (.invokevirtual 144, 3) := by decide +kernel
theorem dX5_reasonAgainst_75 : decode cX5_reasonAgainst 75 = .ok (.iadd, 1) := by decide +kernel
theorem dX5_reasonAgainst_76 : decode cX5_reasonAgainst 76 = .ok (.istore 4, 2) := by decide +kernel
theorem dX5_reasonAgainst_78 : decode cX5_reasonAgainst 78 = .ok (.aload_n 0, 1) := by decide +kernel
theorem dX5_reasonAgainst_79 : decode cX5_reasonAgainst 79 = .ok (.getfield 26, 3) := by decide +kernel
theorem dX5_reasonAgainst_82 : decode cX5_reasonAgainst 82 = .ok (.getfield 78, 3) := by decide +kernel
theorem dX5_reasonAgainst_85 : decode cX5_reasonAgainst 85 = .ok (.aload_n 0, 1) := by decide +kernel
theorem dX5_reasonAgainst_86 : decode cX5_reasonAgainst 86 = .ok (.getfield 41, 3) := by decide +kernel
theorem dX5_reasonAgainst_89 : decode cX5_reasonAgainst 89 = .ok (.iaload, 1) := by decide +kernel
theorem dX5_reasonAgainst_90 : decode cX5_reasonAgainst 90 = .ok (.iload 4, 2) := by decide +kernel
theorem dX5_reasonAgainst_92 : decode cX5_reasonAgainst 92 = .ok (.iadd, 1) := by decide +kernel
theorem dX5_reasonAgainst_93 : decode cX5_reasonAgainst 93 = .ok (.aload_n 0, 1) := by decide +kernel
theorem dX5_reasonAgainst_94 : decode cX5_reasonAgainst 94 = .ok (.getfield 18, 3) := by decide +kernel
theorem dX5_reasonAgainst_97 : decode cX5_reasonAgainst 97 = .ok (.iconst 1, 1) := by decide +kernel
theorem dX5_reasonAgainst_98 : decode cX5_reasonAgainst 98 = .ok (.iaload, 1) := by decide +kernel
theorem dX5_reasonAgainst_99 : decode cX5_reasonAgainst 99 = .ok (.if_icmp .le 5, 3) := by decide +kernel
theorem dX5_reasonAgainst_102 : decode cX5_reasonAgainst 102 = .ok (.iconst 5, 1) := by decide +kernel
theorem dX5_reasonAgainst_103 : decode cX5_reasonAgainst 103 = .ok (.ireturn, 1) := by decide +kernel
theorem dX5_reasonAgainst_104 : decode cX5_reasonAgainst 104 = .ok (.aload_n 0, 1) := by decide +kernel
theorem dX5_reasonAgainst_105 : decode cX5_reasonAgainst 105 = .ok (.getfield 37, 3) := by decide +kernel
theorem dX5_reasonAgainst_108 : decode cX5_reasonAgainst 108 = .ok (.iload 4, 2) := by decide +kernel
theorem dX5_reasonAgainst_110 : decode cX5_reasonAgainst 110 = .ok (.iadd, 1) := by decide +kernel
theorem dX5_reasonAgainst_111 : decode cX5_reasonAgainst 111 = .ok (.aload_n 0, 1) := by decide +kernel
theorem dX5_reasonAgainst_112 : decode cX5_reasonAgainst 112 = .ok (.iload_n 1, 1) := by decide +kernel
theorem dX5_reasonAgainst_113 : decode cX5_reasonAgainst 113 = .ok (.invokevirtual 147, 3) := by decide +kernel
theorem dX5_reasonAgainst_116 : decode cX5_reasonAgainst 116 = .ok (.if_icmp .ge 6, 3) := by decide +kernel
theorem dX5_reasonAgainst_119 : decode cX5_reasonAgainst 119 = .ok (.bipush 6, 2) := by decide +kernel
theorem dX5_reasonAgainst_121 : decode cX5_reasonAgainst 121 = .ok (.ireturn, 1) := by decide +kernel
theorem dX5_reasonAgainst_122 : decode cX5_reasonAgainst 122 = .ok (.aload_n 0, 1) := by decide +kernel
theorem dX5_reasonAgainst_123 : decode cX5_reasonAgainst 123 = .ok (.getfield 37, 3) := by decide +kernel
theorem dX5_reasonAgainst_126 : decode cX5_reasonAgainst 126 = .ok (.iload 4, 2) := by decide +kernel
theorem dX5_reasonAgainst_128 : decode cX5_reasonAgainst 128 = .ok (.iadd, 1) := by decide +kernel
theorem dX5_reasonAgainst_129 : decode cX5_reasonAgainst 129 = .ok (.aload_n 0, 1) := by decide +kernel
theorem dX5_reasonAgainst_130 : decode cX5_reasonAgainst 130 = .ok (.getfield 33, 3) := by decide +kernel
theorem dX5_reasonAgainst_133 : decode cX5_reasonAgainst 133 = .ok (.getfield 112, 3) := by decide +kernel
theorem dX5_reasonAgainst_136 : decode cX5_reasonAgainst 136 = .ok (.iload_n 1, 1) := by decide +kernel
theorem dX5_reasonAgainst_137 : decode cX5_reasonAgainst 137 = .ok (.iaload, 1) := by decide +kernel
theorem dX5_reasonAgainst_138 : decode cX5_reasonAgainst 138 = .ok (.iadd, 1) := by decide +kernel
theorem dX5_reasonAgainst_139 : decode cX5_reasonAgainst 139 = .ok (.ldc 150, 2) := by decide +kernel
theorem dX5_reasonAgainst_141 : decode cX5_reasonAgainst 141 = .ok (.if_icmp .le 6, 3) := by decide +kernel
theorem dX5_reasonAgainst_144 : decode cX5_reasonAgainst 144 = .ok (.bipush 7, 2) := by decide +kernel
theorem dX5_reasonAgainst_146 : decode cX5_reasonAgainst 146 = .ok (.ireturn, 1) := by decide +kernel
theorem dX5_reasonAgainst_147 : decode cX5_reasonAgainst 147 = .ok (.iconst 0, 1) := by decide +kernel
theorem dX5_reasonAgainst_148 : decode cX5_reasonAgainst 148 = .ok (.ireturn, 1) := by decide +kernel
theorem dX5_drawByHand_0 : decode cX5_drawByHand 0 = .ok (.aload_n 0, 1) := by decide +kernel
theorem dX5_drawByHand_1 : decode cX5_drawByHand 1 = .ok (.iload_n 1, 1) := by decide +kernel
theorem dX5_drawByHand_2 : decode cX5_drawByHand 2 = .ok (.iload_n 2, 1) := by decide +kernel
theorem dX5_drawByHand_3 : decode cX5_drawByHand 3 = .ok (.invokevirtual 144, 3) := by decide +kernel
theorem dX5_drawByHand_6 : decode cX5_drawByHand 6 = .ok (.istore_n 3, 1) := by decide +kernel
theorem dX5_drawByHand_7 : decode cX5_drawByHand 7 = .ok (.aload_n 0, 1) := by decide +kernel
theorem dX5_drawByHand_8 : decode cX5_drawByHand 8 = .ok (.getfield 33, 3) := by decide +kernel
theorem dX5_drawByHand_11 : decode cX5_drawByHand 11 = .ok (.getfield 112, 3) := by decide +kernel
theorem dX5_drawByHand_14 : decode cX5_drawByHand 14 = .ok (.iload_n 1, 1) := by decide +kernel
theorem dX5_drawByHand_15 : decode cX5_drawByHand 15 = .ok (.iaload, 1) := by decide +kernel
theorem dX5_drawByHand_16 : decode cX5_drawByHand 16 = .ok (.istore 4, 2) := by decide +kernel
theorem dX5_drawByHand_18 : decode cX5_drawByHand 18 = .ok (.aload_n 0, 1) := by decide +kernel
theorem dX5_drawByHand_19 : decode cX5_drawByHand 19 = .ok (.dup, 1) := by decide +kernel
theorem dX5_drawByHand_20 : decode cX5_drawByHand 20 = .ok (.getfield 37, 3) := by decide +kernel
theorem dX5_drawByHand_23 : decode cX5_drawByHand 23 = .ok (.iload_n 3, 1) := by decide +kernel
theorem dX5_drawByHand_24 : decode cX5_drawByHand 24 = .ok (.iload 4, 2) := by decide +kernel
theorem dX5_drawByHand_26 : decode cX5_drawByHand 26 = .ok (.iadd, 1) := by decide +kernel
theorem dX5_drawByHand_27 : decode cX5_drawByHand 27 = .ok (.iadd, 1) := by decide +kernel
theorem dX5_drawByHand_28 : decode cX5_drawByHand 28 = .ok (.putfield 37, 3) := by decide +kernel
theorem dX5_drawByHand_31 : decode cX5_drawByHand 31 = .ok (.aload_n 0, 1) := by decide +kernel
theorem dX5_drawByHand_32 : decode cX5_drawByHand 32 = .ok (.dup, 1) := by decide +kernel
theorem dX5_drawByHand_33 : decode cX5_drawByHand 33 = .ok (.getfield 53, 3) := by decide +kernel
theorem dX5_drawByHand_36 : decode cX5_drawByHand 36 = .ok (.iload_n 3, 1) := by decide +kernel
theorem dX5_drawByHand_37 : decode cX5_drawByHand 37 = .ok (.iadd, 1) := by decide +kernel
theorem dX5_drawByHand_38 : decode cX5_drawByHand 38 = .ok (.putfield 53, 3) := by decide +kernel
theorem dX5_drawByHand_41 : decode cX5_drawByHand 41 = .ok (.aload_n 0, 1) := by decide +kernel
theorem dX5_drawByHand_42 : decode cX5_drawByHand 42 = .ok (.aload_n 0, 1) := by decide +kernel
theorem dX5_drawByHand_43 : decode cX5_drawByHand 43 = .ok (.getfield 33, 3) := by decide +kernel
theorem dX5_drawByHand_46 : decode cX5_drawByHand 46 = .ok (.iload_n 1, 1) := by decide +kernel
theorem dX5_drawByHand_47 : decode cX5_drawByHand 47 = .ok (.iconst 1, 1) := by decide +kernel
theorem dX5_drawByHand_48 : decode cX5_drawByHand 48 = .ok (.iload_n 2, 1) := by decide +kernel
theorem dX5_drawByHand_49 : decode cX5_drawByHand 49 = .ok (.isub, 1) := by decide +kernel
theorem dX5_drawByHand_50 : decode cX5_drawByHand 50 = .ok (.invokevirtual 115, 3) := by decide +kernel
theorem dX5_drawByHand_53 : decode cX5_drawByHand 53 = .ok (.putfield 44, 3) := by decide +kernel
theorem dX5_drawByHand_56 : decode cX5_drawByHand 56 = .ok (.aload_n 0, 1) := by decide +kernel
theorem dX5_drawByHand_57 : decode cX5_drawByHand 57 = .ok (.aload_n 0, 1) := by decide +kernel
theorem dX5_drawByHand_58 : decode cX5_drawByHand 58 = .ok (.getfield 33, 3) := by decide +kernel
theorem dX5_drawByHand_61 : decode cX5_drawByHand 61 = .ok (.iload_n 1, 1) := by decide +kernel
theorem dX5_drawByHand_62 : decode cX5_drawByHand 62 = .ok (.iconst 1, 1) := by decide +kernel
theorem dX5_drawByHand_63 : decode cX5_drawByHand 63 = .ok (.iload_n 2, 1) := by decide +kernel
theorem dX5_drawByHand_64 : decode cX5_drawByHand 64 = .ok (.isub, 1) := by decide +kernel
theorem dX5_drawByHand_65 : decode cX5_drawByHand 65 = .ok (.invokevirtual 119, 3) := by decide +kernel
theorem dX5_drawByHand_68 : decode cX5_drawByHand 68 = .ok (.putfield 47, 3) := by decide +kernel
theorem dX5_drawByHand_71 : decode cX5_drawByHand 71 = .ok (.aload_n 0, 1) := by decide +kernel
theorem dX5_drawByHand_72 : decode cX5_drawByHand 72 = .ok (.getfield 33, 3) := by decide +kernel
theorem dX5_drawByHand_75 : decode cX5_drawByHand 75 = .ok (.getfield 97, 3) := by decide +kernel
theorem dX5_drawByHand_78 : decode cX5_drawByHand 78 = .ok (.iload_n 1, 1) := by decide +kernel
theorem dX5_drawByHand_79 : decode cX5_drawByHand 79 = .ok (.aload_n 0, 1) := by decide +kernel
theorem dX5_drawByHand_80 : decode cX5_drawByHand 80 = .ok (.getfield 41, 3) := by decide +kernel
theorem dX5_drawByHand_83 : decode cX5_drawByHand 83 = .ok (.iastore, 1) := by decide +kernel
theorem dX5_drawByHand_84 : decode cX5_drawByHand 84 = .ok (.aload_n 0, 1) := by decide +kernel
theorem dX5_drawByHand_85 : decode cX5_drawByHand 85 = .ok (.getfield 33, 3) := by decide +kernel
theorem dX5_drawByHand_88 : decode cX5_drawByHand 88 = .ok (.getfield 151, 3) := by decide +kernel
theorem dX5_drawByHand_91 : decode cX5_drawByHand 91 = .ok (.iload_n 1, 1) := by decide +kernel
theorem dX5_drawByHand_92 : decode cX5_drawByHand 92 = .ok (.aload_n 0, 1) := by decide +kernel
theorem dX5_drawByHand_93 : decode cX5_drawByHand 93 = .ok (.getfield 37, 3) := by decide +kernel
theorem dX5_drawByHand_96 : decode cX5_drawByHand 96 = .ok (.iastore, 1) := by decide +kernel
theorem dX5_drawByHand_97 : decode cX5_drawByHand 97 = .ok (.aload_n 0, 1) := by decide +kernel
theorem dX5_drawByHand_98 : decode cX5_drawByHand 98 = .ok (.getfield 33, 3) := by decide +kernel
theorem dX5_drawByHand_101 : decode cX5_drawByHand 101 = .ok (.getfield 84, 3) := by decide +kernel
theorem dX5_drawByHand_104 : decode cX5_drawByHand 104 = .ok (.iload_n 1, 1) := by decide +kernel
theorem dX5_drawByHand_105 : decode cX5_drawByHand 105 = .ok (.aload_n 0, 1) := by decide +kernel
theorem dX5_drawByHand_106 : decode cX5_drawByHand 106 = .ok (.getfield 37, 3) := by decide +kernel
theorem dX5_drawByHand_109 : decode cX5_drawByHand 109 = .ok (.aload_n 0, 1) := by decide +kernel
theorem dX5_drawByHand_110 : decode cX5_drawByHand 110 = .ok (.getfield 18, 3) := by decide +kernel
theorem dX5_drawByHand_113 : decode cX5_drawByHand 113 = .ok (.iconst 2, 1) := by decide +kernel
theorem dX5_drawByHand_114 : decode cX5_drawByHand 114 = .ok (.iaload, 1) := by decide +kernel
theorem dX5_drawByHand_115 : decode cX5_drawByHand 115 = .ok (.iadd, 1) := by decide +kernel
theorem dX5_drawByHand_116 : decode cX5_drawByHand 116 = .ok (.iastore, 1) := by decide +kernel
theorem dX5_drawByHand_117 : decode cX5_drawByHand 117 = .ok (.aload_n 0, 1) := by decide +kernel
theorem dX5_drawByHand_118 : decode cX5_drawByHand 118 = .ok (.getfield 33, 3) := by decide +kernel
theorem dX5_drawByHand_121 : decode cX5_drawByHand 121 = .ok (.getfield 106, 3) := by decide +kernel
theorem dX5_drawByHand_124 : decode cX5_drawByHand 124 = .ok (.iload_n 1, 1) := by decide +kernel
theorem dX5_drawByHand_125 : decode cX5_drawByHand 125 = .ok (.aload_n 0, 1) := by decide +kernel
theorem dX5_drawByHand_126 : decode cX5_drawByHand 126 = .ok (.getfield 26, 3) := by decide +kernel
theorem dX5_drawByHand_129 : decode cX5_drawByHand 129 = .ok (.getfield 138, 3) := by decide +kernel
theorem dX5_drawByHand_132 : decode cX5_drawByHand 132 = .ok (.aload_n 0, 1) := by decide +kernel
theorem dX5_drawByHand_133 : decode cX5_drawByHand 133 = .ok (.getfield 41, 3) := by decide +kernel
theorem dX5_drawByHand_136 : decode cX5_drawByHand 136 = .ok (.iaload, 1) := by decide +kernel
theorem dX5_drawByHand_137 : decode cX5_drawByHand 137 = .ok (.iastore, 1) := by decide +kernel
theorem dX5_drawByHand_138 : decode cX5_drawByHand 138 = .ok (.aload_n 0, 1) := by decide +kernel
theorem dX5_drawByHand_139 : decode cX5_drawByHand 139 = .ok (.getfield 26, 3) := by decide +kernel
theorem dX5_drawByHand_142 : decode cX5_drawByHand 142 = .ok (.getfield 138, 3) := by decide +kernel
theorem dX5_drawByHand_145 : decode cX5_drawByHand 145 = .ok (.aload_n 0, 1) := by decide +kernel
theorem dX5_drawByHand_146 : decode cX5_drawByHand 146 = .ok (.getfield 41, 3) := by decide +kernel
theorem dX5_drawByHand_149 : decode cX5_drawByHand 149 = .ok (.dup2, 1) := by decide +kernel
theorem dX5_drawByHand_150 : decode cX5_drawByHand 150 = .ok (.iaload, 1) := by decide +kernel
theorem dX5_drawByHand_151 : decode cX5_drawByHand 151 = .ok (.aload_n 0, 1) := by decide +kernel
theorem dX5_drawByHand_152 : decode cX5_drawByHand 152 = .ok (.aload_n 0, 1) := by decide +kernel
theorem dX5_drawByHand_153 : decode cX5_drawByHand 153 = .ok (.getfield 41, 3) := by decide +kernel
theorem dX5_drawByHand_156 : decode cX5_drawByHand 156 = .ok (.iload_n 1, 1) := by decide +kernel
theorem dX5_drawByHand_157 : decode cX5_drawByHand 157 = .ok (.invokevirtual 141, 3) := by decide +kernel
theorem dX5_drawByHand_160 : decode cX5_drawByHand 160 = .ok (.isub, 1) := by decide +kernel
theorem dX5_drawByHand_161 : decode cX5_drawByHand 161 = .ok (.iastore, 1) := by decide +kernel
theorem dX5_drawByHand_162 : decode cX5_drawByHand 162 = .ok (.aload_n 0, 1) := by decide +kernel
theorem dX5_drawByHand_163 : decode cX5_drawByHand 163 = .ok (.getfield 26, 3) := by decide +kernel
theorem dX5_drawByHand_166 : decode cX5_drawByHand 166 = .ok (.getfield 71, 3) := by decide +kernel
theorem dX5_drawByHand_169 : decode cX5_drawByHand 169 = .ok (.aload_n 0, 1) := by decide +kernel
theorem dX5_drawByHand_170 : decode cX5_drawByHand 170 = .ok (.getfield 41, 3) := by decide +kernel
theorem dX5_drawByHand_173 : decode cX5_drawByHand 173 = .ok (.dup2, 1) := by decide +kernel
theorem dX5_drawByHand_174 : decode cX5_drawByHand 174 = .ok (.iaload, 1) := by decide +kernel
theorem dX5_drawByHand_175 : decode cX5_drawByHand 175 = .ok (.iload 4, 2) := by decide +kernel
theorem dX5_drawByHand_177 : decode cX5_drawByHand 177 = .ok (.iadd, 1) := by decide +kernel
theorem dX5_drawByHand_178 : decode cX5_drawByHand 178 = .ok (.iastore, 1) := by decide +kernel
theorem dX5_drawByHand_179 : decode cX5_drawByHand 179 = .ok (.aload_n 0, 1) := by decide +kernel
theorem dX5_drawByHand_180 : decode cX5_drawByHand 180 = .ok (.getfield 26, 3) := by decide +kernel
theorem dX5_drawByHand_183 : decode cX5_drawByHand 183 = .ok (.getfield 78, 3) := by decide +kernel
theorem dX5_drawByHand_186 : decode cX5_drawByHand 186 = .ok (.aload_n 0, 1) := by decide +kernel
theorem dX5_drawByHand_187 : decode cX5_drawByHand 187 = .ok (.getfield 41, 3) := by decide +kernel
theorem dX5_drawByHand_190 : decode cX5_drawByHand 190 = .ok (.iconst 0, 1) := by decide +kernel
theorem dX5_drawByHand_191 : decode cX5_drawByHand 191 = .ok (.iastore, 1) := by decide +kernel
theorem dX5_drawByHand_192 : decode cX5_drawByHand 192 = .ok (.return_, 1) := by decide +kernel
theorem dX5_passIdly_0 : decode cX5_passIdly 0 = .ok (.aload_n 0, 1) := by decide +kernel
theorem dX5_passIdly_1 : decode cX5_passIdly 1 = .ok (.dup, 1) := by decide +kernel
theorem dX5_passIdly_2 : decode cX5_passIdly 2 = .ok (.getfield 37, 3) := by decide +kernel
theorem dX5_passIdly_5 : decode cX5_passIdly 5 = .ok (.iload_n 1, 1) := by decide +kernel
theorem dX5_passIdly_6 : decode cX5_passIdly 6 = .ok (.iadd, 1) := by decide +kernel
theorem dX5_passIdly_7 : decode cX5_passIdly 7 = .ok (.putfield 37, 3) := by decide +kernel
theorem dX5_passIdly_10 : decode cX5_passIdly 10 = .ok (.aload_n 0, 1) := by decide +kernel
theorem dX5_passIdly_11 : decode cX5_passIdly 11 = .ok (.getfield 26, 3) := by decide +kernel
theorem dX5_passIdly_14 : decode cX5_passIdly 14 = .ok (.aload_n 0, 1) := by decide +kernel
theorem dX5_passIdly_15 : decode cX5_passIdly 15 = .ok (.getfield 41, 3) := by decide +kernel
theorem dX5_passIdly_18 : decode cX5_passIdly 18 = .ok (.invokevirtual 100, 3) := by decide +kernel
theorem dX5_passIdly_21 : decode cX5_passIdly 21 = .ok (.ifCond .eq 19, 3) := by decide +kernel
theorem dX5_passIdly_24 : decode cX5_passIdly 24 = .ok (.aload_n 0, 1) := by decide +kernel
theorem dX5_passIdly_25 : decode cX5_passIdly 25 = .ok (.getfield 26, 3) := by decide +kernel
theorem dX5_passIdly_28 : decode cX5_passIdly 28 = .ok (.getfield 78, 3) := by decide +kernel
theorem dX5_passIdly_31 : decode cX5_passIdly 31 = .ok (.aload_n 0, 1) := by decide +kernel
theorem dX5_passIdly_32 : decode cX5_passIdly 32 = .ok (.getfield 41, 3) := by decide +kernel
theorem dX5_passIdly_35 : decode cX5_passIdly 35 = .ok (.dup2, 1) := by decide +kernel
theorem dX5_passIdly_36 : decode cX5_passIdly 36 = .ok (.iaload, 1) := by decide +kernel
theorem dX5_passIdly_37 : decode cX5_passIdly 37 = .ok (.iload_n 1, 1) := by decide +kernel
theorem dX5_passIdly_38 : decode cX5_passIdly 38 = .ok (.iadd, 1) := by decide +kernel
theorem dX5_passIdly_39 : decode cX5_passIdly 39 = .ok (.iastore, 1) := by decide +kernel
theorem dX5_passIdly_40 : decode cX5_passIdly 40 = .ok (.return_, 1) := by decide +kernel
theorem dX5_errorOfPassing_0 : decode cX5_errorOfPassing 0 = .ok (.aload_n 0, 1) := by decide +kernel
theorem dX5_errorOfPassing_1 : decode cX5_errorOfPassing 1 = .ok (.getfield 37, 3) := by decide +kernel
theorem dX5_errorOfPassing_4 : decode cX5_errorOfPassing 4 = .ok (.iload_n 1, 1) := by decide +kernel
theorem dX5_errorOfPassing_5 : decode cX5_errorOfPassing 5 = .ok (.iadd, 1) := by decide +kernel
theorem dX5_errorOfPassing_6 : decode cX5_errorOfPassing 6 = .ok (.ldc 150, 2) := by decide +kernel
theorem dX5_errorOfPassing_8 : decode cX5_errorOfPassing 8 = .ok (.if_icmp .le 8, 3) := by decide +kernel
theorem dX5_errorOfPassing_11 : decode cX5_errorOfPassing 11 = .ok (.ldc 154, 2) := by decide +kernel
theorem dX5_errorOfPassing_13 : decode cX5_errorOfPassing 13 = .ok (.goto 4, 3) := by decide +kernel
theorem dX5_errorOfPassing_16 : decode cX5_errorOfPassing 16 = .ok (.iconst 0, 1) := by decide +kernel
theorem dX5_errorOfPassing_17 : decode cX5_errorOfPassing 17 = .ok (.ireturn, 1) := by decide +kernel
theorem dX5_errorOfTaking_0 : decode cX5_errorOfTaking 0 = .ok (.iload_n 1, 1) := by decide +kernel
theorem dX5_errorOfTaking_1 : decode cX5_errorOfTaking 1 = .ok (.aload_n 0, 1) := by decide +kernel
theorem dX5_errorOfTaking_2 : decode cX5_errorOfTaking 2 = .ok (.getfield 41, 3) := by decide +kernel
theorem dX5_errorOfTaking_5 : decode cX5_errorOfTaking 5 = .ok (.if_icmp .eq 14, 3) := by decide +kernel
theorem dX5_errorOfTaking_8 : decode cX5_errorOfTaking 8 = .ok (.aload_n 0, 1) := by decide +kernel
theorem dX5_errorOfTaking_9 : decode cX5_errorOfTaking 9 = .ok (.getfield 26, 3) := by decide +kernel
theorem dX5_errorOfTaking_12 : decode cX5_errorOfTaking 12 = .ok (.iload_n 1, 1) := by decide +kernel
theorem dX5_errorOfTaking_13 : decode cX5_errorOfTaking 13 = .ok (.invokevirtual 67, 3) := by decide +kernel
theorem dX5_errorOfTaking_16 : decode cX5_errorOfTaking 16 = .ok (.ifCond .eq 6, 3) := by decide +kernel
theorem dX5_errorOfTaking_19 : decode cX5_errorOfTaking 19 = .ok (.ldc 155, 2) := by decide +kernel
theorem dX5_errorOfTaking_21 : decode cX5_errorOfTaking 21 = .ok (.ireturn, 1) := by decide +kernel
theorem dX5_errorOfTaking_22 : decode cX5_errorOfTaking 22 = .ok (.aload_n 0, 1) := by decide +kernel
theorem dX5_errorOfTaking_23 : decode cX5_errorOfTaking 23 = .ok (.aload_n 0, 1) := by decide +kernel
theorem dX5_errorOfTaking_24 : decode cX5_errorOfTaking 24 = .ok (.getfield 18, 3) := by decide +kernel
theorem dX5_errorOfTaking_27 : decode cX5_errorOfTaking 27 = .ok (.iconst 3, 1) := by decide +kernel
theorem dX5_errorOfTaking_28 : decode cX5_errorOfTaking 28 = .ok (.iaload, 1) := by decide +kernel
theorem dX5_errorOfTaking_29 : decode cX5_errorOfTaking 29 = .ok (.invokevirtual 156, 3) := by decide +kernel
theorem dX5_errorOfTaking_32 : decode cX5_errorOfTaking 32 = .ok (.ireturn, 1) := by decide +kernel
theorem dX5_errorOfWaiting_0 : decode cX5_errorOfWaiting 0 = .ok (.iload_n 1, 1) := by decide +kernel
theorem dX5_errorOfWaiting_1 : decode cX5_errorOfWaiting 1 = .ok (.iconst 1, 1) := by decide +kernel
theorem dX5_errorOfWaiting_2 : decode cX5_errorOfWaiting 2 = .ok (.sipush 200, 3) := by decide +kernel
theorem dX5_errorOfWaiting_5 : decode cX5_errorOfWaiting 5 = .ok (.invokestatic 159, 3) := by decide +kernel
theorem dX5_errorOfWaiting_8 : decode cX5_errorOfWaiting 8 = .ok (.ifCond .eq 11, 3) := by decide +kernel
theorem dX5_errorOfWaiting_11 : decode cX5_errorOfWaiting 11 = .ok (.aload_n 0, 1) := by decide +kernel
theorem dX5_errorOfWaiting_12 : decode cX5_errorOfWaiting 12 = .ok (.iload_n 1, 1) := by decide +kernel
theorem dX5_errorOfWaiting_13 : decode cX5_errorOfWaiting 13 = .ok (.invokevirtual 156, 3) := by decide +kernel
theorem dX5_errorOfWaiting_16 : decode cX5_errorOfWaiting 16 = .ok (.goto 5, 3) := by decide +kernel
theorem dX5_errorOfWaiting_19 : decode cX5_errorOfWaiting 19 = .ok (.ldc 163, 2) := by decide +kernel
theorem dX5_errorOfWaiting_21 : decode cX5_errorOfWaiting 21 = .ok (.ireturn, 1) := by decide +kernel
theorem dX5_errorOfCleaning_0 : decode cX5_errorOfCleaning 0 = .ok (.aload_n 0, 1) := by decide +kernel
theorem dX5_errorOfCleaning_1 : decode cX5_errorOfCleaning 1 = .ok (.getfield 41, 3) := by decide +kernel
theorem dX5_errorOfCleaning_4 : decode cX5_errorOfCleaning 4 = .ok (.iconst (-1), 1) := by decide +kernel
theorem dX5_errorOfCleaning_5 : decode cX5_errorOfCleaning 5 = .ok (.if_icmp .ne 8, 3) := by decide +kernel
theorem dX5_errorOfCleaning_8 : decode cX5_errorOfCleaning 8 = .ok (.ldc 155, 2) := by decide +kernel
theorem dX5_errorOfCleaning_10 : decode cX5_errorOfCleaning 10 = .ok (.goto 13, 3) := by decide +kernel
theorem dX5_errorOfCleaning_13 : decode cX5_errorOfCleaning 13 = .ok (.aload_n 0, 1) := by decide +kernel
theorem dX5_errorOfCleaning_14 : decode cX5_errorOfCleaning 14 = .ok (.aload_n 0, 1) := by decide +kernel
theorem dX5_errorOfCleaning_15 : decode cX5_errorOfCleaning 15 = .ok (.getfield 18, 3) := by decide +kernel
theorem dX5_errorOfCleaning_18 : decode cX5_errorOfCleaning 18 = .ok (.iconst 4, 1) := by decide +kernel
theorem dX5_errorOfCleaning_19 : decode cX5_errorOfCleaning 19 = .ok (.iaload, 1) := by decide +kernel
theorem dX5_errorOfCleaning_20 : decode cX5_errorOfCleaning 20 = .ok (.invokevirtual 156, 3) := by decide +kernel
theorem dX5_errorOfCleaning_23 : decode cX5_errorOfCleaning 23 = .ok (.ireturn, 1) := by decide +kernel
theorem dX5_swapTo_0 : decode cX5_swapTo 0 = .ok (.aload_n 0, 1) := by decide +kernel
theorem dX5_swapTo_1 : decode cX5_swapTo 1 = .ok (.getfield 41, 3) := by decide +kernel
theorem dX5_swapTo_4 : decode cX5_swapTo 4 = .ok (.istore_n 2, 1) := by decide +kernel
theorem dX5_swapTo_5 : decode cX5_swapTo 5 = .ok (.aload_n 0, 1) := by decide +kernel
theorem dX5_swapTo_6 : decode cX5_swapTo 6 = .ok (.aload_n 0, 1) := by decide +kernel
theorem dX5_swapTo_7 : decode cX5_swapTo 7 = .ok (.getfield 18, 3) := by decide +kernel
theorem dX5_swapTo_10 : decode cX5_swapTo 10 = .ok (.iconst 3, 1) := by decide +kernel
theorem dX5_swapTo_11 : decode cX5_swapTo 11 = .ok (.iaload, 1) := by decide +kernel
theorem dX5_swapTo_12 : decode cX5_swapTo 12 = .ok (.invokevirtual 164, 3) := by decide +kernel
theorem dX5_swapTo_15 : decode cX5_swapTo 15 = .ok (.aload_n 0, 1) := by decide +kernel
theorem dX5_swapTo_16 : decode cX5_swapTo 16 = .ok (.iload_n 1, 1) := by decide +kernel
theorem dX5_swapTo_17 : decode cX5_swapTo 17 = .ok (.putfield 41, 3) := by decide +kernel
theorem dX5_swapTo_20 : decode cX5_swapTo 20 = .ok (.aload_n 0, 1) := by decide +kernel
theorem dX5_swapTo_21 : decode cX5_swapTo 21 = .ok (.dup, 1) := by decide +kernel
theorem dX5_swapTo_22 : decode cX5_swapTo 22 = .ok (.getfield 50, 3) := by decide +kernel
theorem dX5_swapTo_25 : decode cX5_swapTo 25 = .ok (.iconst 1, 1) := by decide +kernel
theorem dX5_swapTo_26 : decode cX5_swapTo 26 = .ok (.iadd, 1) := by decide +kernel
theorem dX5_swapTo_27 : decode cX5_swapTo 27 = .ok (.putfield 50, 3) := by decide +kernel
theorem dX5_swapTo_30 : decode cX5_swapTo 30 = .ok (.iload_n 2, 1) := by decide +kernel
theorem dX5_swapTo_31 : decode cX5_swapTo 31 = .ok (.ireturn, 1) := by decide +kernel
theorem dX5_cleanHand_0 : decode cX5_cleanHand 0 = .ok (.aload_n 0, 1) := by decide +kernel
theorem dX5_cleanHand_1 : decode cX5_cleanHand 1 = .ok (.getfield 26, 3) := by decide +kernel
theorem dX5_cleanHand_4 : decode cX5_cleanHand 4 = .ok (.aload_n 0, 1) := by decide +kernel
theorem dX5_cleanHand_5 : decode cX5_cleanHand 5 = .ok (.getfield 41, 3) := by decide +kernel
theorem dX5_cleanHand_8 : decode cX5_cleanHand 8 = .ok (.invokevirtual 100, 3) := by decide +kernel
theorem dX5_cleanHand_11 : decode cX5_cleanHand 11 = .ok (.ifCond .ne 6, 3) := by decide +kernel
theorem dX5_cleanHand_14 : decode cX5_cleanHand 14 = .ok (.ldc 155, 2) := by decide +kernel
theorem dX5_cleanHand_16 : decode cX5_cleanHand 16 = .ok (.ireturn, 1) := by decide +kernel
theorem dX5_cleanHand_17 : decode cX5_cleanHand 17 = .ok (.aload_n 0, 1) := by decide +kernel
theorem dX5_cleanHand_18 : decode cX5_cleanHand 18 = .ok (.getfield 26, 3) := by decide +kernel
theorem dX5_cleanHand_21 : decode cX5_cleanHand 21 = .ok (.getfield 78, 3) := by decide +kernel
theorem dX5_cleanHand_24 : decode cX5_cleanHand 24 = .ok (.aload_n 0, 1) := by decide +kernel
theorem dX5_cleanHand_25 : decode cX5_cleanHand 25 = .ok (.getfield 41, 3) := by decide +kernel
theorem dX5_cleanHand_28 : decode cX5_cleanHand 28 = .ok (.iaload, 1) := by decide +kernel
theorem dX5_cleanHand_29 : decode cX5_cleanHand 29 = .ok (.istore_n 1, 1) := by decide +kernel
theorem dX5_cleanHand_30 : decode cX5_cleanHand 30 = .ok (.aload_n 0, 1) := by decide +kernel
theorem dX5_cleanHand_31 : decode cX5_cleanHand 31 = .ok (.aload_n 0, 1) := by decide +kernel
theorem dX5_cleanHand_32 : decode cX5_cleanHand 32 = .ok (.getfield 18, 3) := by decide +kernel
theorem dX5_cleanHand_35 : decode cX5_cleanHand 35 = .ok (.iconst 4, 1) := by decide +kernel
theorem dX5_cleanHand_36 : decode cX5_cleanHand 36 = .ok (.iaload, 1) := by decide +kernel
theorem dX5_cleanHand_37 : decode cX5_cleanHand 37 = .ok (.invokevirtual 164, 3) := by decide +kernel
theorem dX5_cleanHand_40 : decode cX5_cleanHand 40 = .ok (.aload_n 0, 1) := by decide +kernel
theorem dX5_cleanHand_41 : decode cX5_cleanHand 41 = .ok (.getfield 26, 3) := by decide +kernel
theorem dX5_cleanHand_44 : decode cX5_cleanHand 44 = .ok (.getfield 78, 3) := by decide +kernel
theorem dX5_cleanHand_47 : decode cX5_cleanHand 47 = .ok (.aload_n 0, 1) := by decide +kernel
theorem dX5_cleanHand_48 : decode cX5_cleanHand 48 = .ok (.getfield 41, 3) := by decide +kernel
theorem dX5_cleanHand_51 : decode cX5_cleanHand 51 = .ok (.iconst 0, 1) := by decide +kernel
theorem dX5_cleanHand_52 : decode cX5_cleanHand 52 = .ok (.iastore, 1) := by decide +kernel
theorem dX5_cleanHand_53 : decode cX5_cleanHand 53 = .ok (.iload_n 1, 1) := by decide +kernel
theorem dX5_cleanHand_54 : decode cX5_cleanHand 54 = .ok (.ireturn, 1) := by decide +kernel
theorem dX6_init_0 : decode cX6_init 0 = .ok (.aload_n 0, 1) := by decide +kernel
theorem dX6_init_1 : decode cX6_init 1 = .ok (.invokespecial 3, 3) := by decide +kernel
theorem dX6_init_4 : decode cX6_init 4 = .ok (.aload_n 0, 1) := by decide +kernel
theorem dX6_init_5 : decode cX6_init 5 = .ok (.iconst 0, 1) := by decide +kernel
theorem dX6_init_6 : decode cX6_init 6 = .ok (.putfield 9, 3) := by decide +kernel
theorem dX6_init_9 : decode cX6_init 9 = .ok (.aload_n 0, 1) := by decide +kernel
theorem dX6_init_10 : decode cX6_init 10 = .ok (.bipush 16, 2) := by decide +kernel
theorem dX6_init_12 : decode cX6_init 12 = .ok (.newarray .int, 2) := by decide +kernel
theorem dX6_init_14 : decode cX6_init 14 = .ok (.putfield 15, 3) := by decide +kernel
theorem dX6_init_17 : decode cX6_init 17 = .ok (.aload_n 0, 1) := by decide +kernel
theorem dX6_init_18 : decode cX6_init 18 = .ok (.bipush 16, 2) := by decide +kernel
theorem dX6_init_20 : decode cX6_init 20 = .ok (.newarray .int, 2) := by decide +kernel
theorem dX6_init_22 : decode cX6_init 22 = .ok (.putfield 19, 3) := by decide +kernel
theorem dX6_init_25 : decode cX6_init 25 = .ok (.aload_n 0, 1) := by decide +kernel
theorem dX6_init_26 : decode cX6_init 26 = .ok (.bipush 16, 2) := by decide +kernel
theorem dX6_init_28 : decode cX6_init 28 = .ok (.newarray .int, 2) := by decide +kernel
theorem dX6_init_30 : decode cX6_init 30 = .ok (.putfield 22, 3) := by decide +kernel
theorem dX6_init_33 : decode cX6_init 33 = .ok (.aload_n 0, 1) := by decide +kernel
theorem dX6_init_34 : decode cX6_init 34 = .ok (.bipush 16, 2) := by decide +kernel
theorem dX6_init_36 : decode cX6_init 36 = .ok (.newarray .boolean, 2) := by decide +kernel
theorem dX6_init_38 : decode cX6_init 38 = .ok (.putfield 25, 3) := by decide +kernel
theorem dX6_init_41 : decode cX6_init 41 = .ok (.aload_n 0, 1) := by decide +kernel
theorem dX6_init_42 : decode cX6_init 42 = .ok (.iconst 0, 1) := by decide +kernel
theorem dX6_init_43 : decode cX6_init 43 = .ok (.putfield 29, 3) := by decide +kernel
theorem dX6_init_46 : decode cX6_init 46 = .ok (.aload_n 0, 1) := by decide +kernel
theorem dX6_init_47 : decode cX6_init 47 = .ok (.iconst 0, 1) := by decide +kernel
theorem dX6_init_48 : decode cX6_init 48 = .ok (.putfield 32, 3) := by decide +kernel
theorem dX6_init_51 : decode cX6_init 51 = .ok (.return_, 1) := by decide +kernel
theorem dX7_init_0 : decode cX7_init 0 = .ok (.aload_n 0, 1) := by decide +kernel
theorem dX7_init_1 : decode cX7_init 1 = .ok (.invokespecial 1, 3) := by decide +kernel
theorem dX7_init_4 : decode cX7_init 4 = .ok (.aload_n 0, 1) := by decide +kernel
theorem dX7_init_5 : decode cX7_init 5 = .ok (.new 7, 3) := by decide +kernel
theorem dX7_init_8 : decode cX7_init 8 = .ok (.dup, 1) := by decide +kernel
theorem dX7_init_9 : decode cX7_init 9 = .ok (.invokespecial 9, 3) := by decide +kernel
theorem dX7_init_12 : decode cX7_init 12 = .ok (.putfield 10, 3) := by decide +kernel
theorem dX7_init_15 : decode cX7_init 15 = .ok (.aload_n 0, 1) := by decide +kernel
theorem dX7_init_16 : decode cX7_init 16 = .ok (.new 7, 3) := by decide +kernel
theorem dX7_init_19 : decode cX7_init 19 = .ok (.dup, 1) := by decide +kernel
theorem dX7_init_20 : decode cX7_init 20 = .ok (.invokespecial 9, 3) := by decide +kernel
theorem dX7_init_23 : decode cX7_init 23 = .ok (.putfield 16, 3) := by decide +kernel
theorem dX7_init_26 : decode cX7_init 26 = .ok (.aload_n 0, 1) := by decide +kernel
theorem dX7_init_27 : decode cX7_init 27 = .ok (.new 19, 3) := by decide +kernel
theorem dX7_init_30 : decode cX7_init 30 = .ok (.dup, 1) := by decide +kernel
theorem dX7_init_31 : decode cX7_init 31 = .ok (.invokespecial 21, 3) := by decide +kernel
theorem dX7_init_34 : decode cX7_init 34 = .ok (.putfield 22, 3) := by decide +kernel
theorem dX7_init_37 : decode cX7_init 37 = .ok (.aload_n 0, 1) := by decide +kernel
theorem dX7_init_38 : decode cX7_init 38 = .ok (.new 26, 3) := by decide +kernel
theorem dX7_init_41 : decode cX7_init 41 = .ok (.dup, 1) := by decide +kernel
theorem dX7_init_42 : decode cX7_init 42 = .ok (.invokespecial 28, 3) := by decide +kernel
theorem dX7_init_45 : decode cX7_init 45 = .ok (.putfield 29, 3) := by decide +kernel
theorem dX7_init_48 : decode cX7_init 48 = .ok (.aload_n 0, 1) := by decide +kernel
theorem dX7_init_49 : decode cX7_init 49 = .ok (.new 33, 3) := by decide +kernel
theorem dX7_init_52 : decode cX7_init 52 = .ok (.dup, 1) := by decide +kernel
theorem dX7_init_53 : decode cX7_init 53 = .ok (.invokespecial 35, 3) := by decide +kernel
theorem dX7_init_56 : decode cX7_init 56 = .ok (.putfield 36, 3) := by decide +kernel
theorem dX7_init_59 : decode cX7_init 59 = .ok (.aload_n 0, 1) := by decide +kernel
theorem dX7_init_60 : decode cX7_init 60 = .ok (.new 40, 3) := by decide +kernel
theorem dX7_init_63 : decode cX7_init 63 = .ok (.dup, 1) := by decide +kernel
theorem dX7_init_64 : decode cX7_init 64 = .ok (.invokespecial 42, 3) := by decide +kernel
theorem dX7_init_67 : decode cX7_init 67 = .ok (.putfield 43, 3) := by decide +kernel
theorem dX7_init_70 : decode cX7_init 70 = .ok (.return_, 1) := by decide +kernel
theorem dX7_set_0 : decode cX7_set 0 = .ok (.iload_n 1, 1) := by decide +kernel
theorem dX7_set_1 : decode cX7_set 1 = .ok (.iconst 0, 1) := by decide +kernel
theorem dX7_set_2 : decode cX7_set 2 = .ok (.iconst 4, 1) := by decide +kernel
theorem dX7_set_3 : decode cX7_set 3 = .ok (.invokestatic 47, 3) := by decide +kernel
theorem dX7_set_6 : decode cX7_set 6 = .ok (.ifCond .eq 20, 3) := by decide +kernel
theorem dX7_set_9 : decode cX7_set 9 = .ok (.iload_n 2, 1) := by decide +kernel
theorem dX7_set_10 : decode cX7_set 10 = .ok (.getstatic 51, 3) := by decide +kernel
theorem dX7_set_13 : decode cX7_set 13 = .ok (.iload_n 1, 1) := by decide +kernel
theorem dX7_set_14 : decode cX7_set 14 = .ok (.iaload, 1) := by decide +kernel
theorem dX7_set_15 : decode cX7_set 15 = .ok (.getstatic 55, 3) := by decide +kernel
theorem dX7_set_18 : decode cX7_set 18 = .ok (.iload_n 1, 1) := by decide +kernel
theorem dX7_set_19 : decode cX7_set 19 = .ok (.iaload, 1) := by decide +kernel
theorem dX7_set_20 : decode cX7_set 20 = .ok (.invokestatic 47, 3) := by decide +kernel
theorem dX7_set_23 : decode cX7_set 23 = .ok (.ifCond .ne 6, 3) := by decide +kernel
theorem dX7_set_26 : decode cX7_set 26 = .ok (.ldc 58, 2) := by decide +kernel
theorem dX7_set_28 : decode cX7_set 28 = .ok (.ireturn, 1) := by decide +kernel
theorem dX7_set_29 : decode cX7_set 29 = .ok (.aload_n 0, 1) := by decide +kernel
theorem dX7_set_30 : decode cX7_set 30 = .ok (.getfield 22, 3) := by decide +kernel
theorem dX7_set_33 : decode cX7_set 33 = .ok (.aload_n 0, 1) := by decide +kernel
theorem dX7_set_34 : decode cX7_set 34 = .ok (.getfield 10, 3) := by decide +kernel
theorem dX7_set_37 : decode cX7_set 37 = .ok (.invokevirtual 59, 3) := by decide +kernel
theorem dX7_set_40 : decode cX7_set 40 = .ok (.aload_n 0, 1) := by decide +kernel
theorem dX7_set_41 : decode cX7_set 41 = .ok (.getfield 10, 3) := by decide +kernel
theorem dX7_set_44 : decode cX7_set 44 = .ok (.getfield 63, 3) := by decide +kernel
theorem dX7_set_47 : decode cX7_set 47 = .ok (.iload_n 1, 1) := by decide +kernel
theorem dX7_set_48 : decode cX7_set 48 = .ok (.iaload, 1) := by decide +kernel
theorem dX7_set_49 : decode cX7_set 49 = .ok (.istore_n 3, 1) := by decide +kernel
theorem dX7_set_50 : decode cX7_set 50 = .ok (.aload_n 0, 1) := by decide +kernel
theorem dX7_set_51 : decode cX7_set 51 = .ok (.getfield 10, 3) := by decide +kernel
theorem dX7_set_54 : decode cX7_set 54 = .ok (.getfield 63, 3) := by decide +kernel
theorem dX7_set_57 : decode cX7_set 57 = .ok (.iload_n 1, 1) := by decide +kernel
theorem dX7_set_58 : decode cX7_set 58 = .ok (.iload_n 2, 1) := by decide +kernel
theorem dX7_set_59 : decode cX7_set 59 = .ok (.iastore, 1) := by decide +kernel
theorem dX7_set_60 : decode cX7_set 60 = .ok (.iload_n 3, 1) := by decide +kernel
theorem dX7_set_61 : decode cX7_set 61 = .ok (.ireturn, 1) := by decide +kernel
theorem dX7_pen_0 : decode cX7_pen 0 = .ok (.iload_n 1, 1) := by decide +kernel
theorem dX7_pen_1 : decode cX7_pen 1 = .ok (.iconst 0, 1) := by decide +kernel
theorem dX7_pen_2 : decode cX7_pen 2 = .ok (.iconst 1, 1) := by decide +kernel
theorem dX7_pen_3 : decode cX7_pen 3 = .ok (.invokestatic 47, 3) := by decide +kernel
theorem dX7_pen_6 : decode cX7_pen 6 = .ok (.ifCond .eq 34, 3) := by decide +kernel
theorem dX7_pen_9 : decode cX7_pen 9 = .ok (.iload_n 2, 1) := by decide +kernel
theorem dX7_pen_10 : decode cX7_pen 10 = .ok (.bipush 10, 2) := by decide +kernel
theorem dX7_pen_12 : decode cX7_pen 12 = .ok (.sipush 5000, 3) := by decide +kernel
theorem dX7_pen_15 : decode cX7_pen 15 = .ok (.invokestatic 47, 3) := by decide +kernel
theorem dX7_pen_18 : decode cX7_pen 18 = .ok (.ifCond .eq 22, 3) := by decide +kernel
theorem dX7_pen_21 : decode cX7_pen 21 = .ok (.iload_n 3, 1) := by decide +kernel
theorem dX7_pen_22 : decode cX7_pen 22 = .ok (.iconst 0, 1) := by decide +kernel
theorem dX7_pen_23 : decode cX7_pen 23 = .ok (.iconst 2, 1) := by decide +kernel
theorem dX7_pen_24 : decode cX7_pen 24 = .ok (.invokestatic 47, 3) := by decide +kernel
theorem dX7_pen_27 : decode cX7_pen 27 = .ok (.ifCond .eq 13, 3) := by decide +kernel
theorem dX7_pen_30 : decode cX7_pen 30 = .ok (.iload 4, 2) := by decide +kernel
theorem dX7_pen_32 : decode cX7_pen 32 = .ok (.iconst 0, 1) := by decide +kernel
theorem dX7_pen_33 : decode cX7_pen 33 = .ok (.iconst 1, 1) := by decide +kernel
theorem dX7_pen_34 : decode cX7_pen 34 = .ok (.invokestatic 47, 3) := by decide +kernel
theorem dX7_pen_37 : decode cX7_pen 37 = .ok (.ifCond .ne 6, 3) := by decide +kernel
theorem dX7_pen_40 : decode cX7_pen 40 = .ok (.ldc 58, 2) := by decide +kernel
theorem dX7_pen_42 : decode cX7_pen 42 = .ok (.ireturn, 1) := by decide +kernel
theorem dX7_pen_43 : decode cX7_pen 43 = .ok (.bipush 10, 2) := by decide +kernel
theorem dX7_pen_45 : decode cX7_pen 45 = .ok (.iload_n 3, 1) := by decide +kernel
theorem dX7_pen_46 : decode cX7_pen 46 = .ok (.imul, 1) := by decide +kernel
theorem dX7_pen_47 : decode cX7_pen 47 = .ok (.iload 4, 2) := by decide +kernel
theorem dX7_pen_49 : decode cX7_pen 49 = .ok (.iadd, 1) := by decide +kernel
theorem dX7_pen_50 : decode cX7_pen 50 = .ok (.istore 5, 2) := by decide +kernel
theorem dX7_pen_52 : decode cX7_pen 52 = .ok (.iload_n 3, 1) := by decide +kernel
theorem dX7_pen_53 : decode cX7_pen 53 = .ok (.iload_n 1, 1) := by decide +kernel
theorem dX7_pen_54 : decode cX7_pen 54 = .ok (.invokestatic 66, 3) := by decide +kernel
theorem dX7_pen_57 : decode cX7_pen 57 = .ok (.ifCond .eq 18, 3) := by decide +kernel
theorem dX7_pen_60 : decode cX7_pen 60 = .ok (.aload_n 0, 1) := by decide +kernel
theorem dX7_pen_61 : decode cX7_pen 61 = .ok (.getfield 10, 3) := by decide +kernel
theorem dX7_pen_64 : decode cX7_pen 64 = .ok (.getfield 70, 3) := by decide +kernel
theorem dX7_pen_67 : decode cX7_pen 67 = .ok (.iload 5, 2) := by decide +kernel
theorem dX7_pen_69 : decode cX7_pen 69 = .ok (.invokevirtual 74, 3) := by decide +kernel
theorem dX7_pen_72 : decode cX7_pen 72 = .ok (.ifCond .eq 6, 3) := by decide +kernel
theorem dX7_pen_75 : decode cX7_pen 75 = .ok (.ldc 80, 2) := by decide +kernel
theorem dX7_pen_77 : decode cX7_pen 77 = .ok (.ireturn, 1) := by decide +kernel
theorem dX7_pen_78 : decode cX7_pen 78 = .ok (.aload_n 0, 1) := by decide +kernel
theorem dX7_pen_79 : decode cX7_pen 79 = .ok (.getfield 10, 3) := by decide +kernel
theorem dX7_pen_82 : decode cX7_pen 82 = .ok (.getfield 70, 3) := by decide +kernel
theorem dX7_pen_85 : decode cX7_pen 85 = .ok (.getfield 81, 3) := by decide +kernel
theorem dX7_pen_88 : decode cX7_pen 88 = .ok (.iconst 5, 1) := by decide +kernel
theorem dX7_pen_89 : decode cX7_pen 89 = .ok (.if_icmp .lt 6, 3) := by decide +kernel
theorem dX7_pen_92 : decode cX7_pen 92 = .ok (.ldc 85, 2) := by decide +kernel
theorem dX7_pen_94 : decode cX7_pen 94 = .ok (.ireturn, 1) := by decide +kernel
theorem dX7_pen_95 : decode cX7_pen 95 = .ok (.aload_n 0, 1) := by decide +kernel
theorem dX7_pen_96 : decode cX7_pen 96 = .ok (.getfield 22, 3) := by decide +kernel
theorem dX7_pen_99 : decode cX7_pen 99 = .ok (.aload_n 0, 1) := by decide +kernel
theorem dX7_pen_100 : decode cX7_pen 100 = .ok (.getfield 10, 3) := by decide +kernel
theorem dX7_pen_103 : decode cX7_pen 103 = .ok (.invokevirtual 59, 3) := by decide +kernel
theorem dX7_pen_106 : decode cX7_pen 106 = .ok (.aload_n 0, 1) := by decide +kernel
theorem dX7_pen_107 : decode cX7_pen 107 = .ok (.getfield 10, 3) := by decide +kernel
theorem dX7_pen_110 : decode cX7_pen 110 = .ok (.getfield 70, 3) := by decide +kernel
theorem dX7_pen_113 : decode cX7_pen 113 = .ok (.iload_n 1, 1) := by decide +kernel
theorem dX7_pen_114 : decode cX7_pen 114 = .ok (.iload_n 2, 1) := by decide +kernel
theorem dX7_pen_115 : decode cX7_pen 115 = .ok (.iload 5, 2) := by decide +kernel
theorem dX7_pen_117 : decode cX7_pen 117 = .ok (.invokevirtual 86, 3) := by decide +kernel
theorem dX7_pen_120 : decode cX7_pen 120 = .ok (.ireturn, 1) := by decide +kernel
theorem dX7_line_0 : decode cX7_line 0 = .ok (.iload_n 1, 1) := by decide +kernel
theorem dX7_line_1 : decode cX7_line 1 = .ok (.iload_n 2, 1) := by decide +kernel
theorem dX7_line_2 : decode cX7_line 2 = .ok (.invokestatic 90, 3) := by decide +kernel
theorem dX7_line_5 : decode cX7_line 5 = .ok (.ifCond .eq 23, 3) := by decide +kernel
theorem dX7_line_8 : decode cX7_line 8 = .ok (.iload_n 3, 1) := by decide +kernel
theorem dX7_line_9 : decode cX7_line 9 = .ok (.iload 4, 2) := by decide +kernel
theorem dX7_line_11 : decode cX7_line 11 = .ok (.invokestatic 90, 3) := by decide +kernel
theorem dX7_line_14 : decode cX7_line 14 = .ok (.ifCond .eq 14, 3) := by decide +kernel
theorem dX7_line_17 : decode cX7_line 17 = .ok (.iload_n 1, 1) := by decide +kernel
theorem dX7_line_18 : decode cX7_line 18 = .ok (.iload_n 3, 1) := by decide +kernel
theorem dX7_line_19 : decode cX7_line 19 = .ok (.if_icmp .ne 12, 3) := by decide +kernel
theorem dX7_line_22 : decode cX7_line 22 = .ok (.iload_n 2, 1) := by decide +kernel
theorem dX7_line_23 : decode cX7_line 23 = .ok (.iload 4, 2) := by decide +kernel
theorem dX7_line_25 : decode cX7_line 25 = .ok (.if_icmp .ne 6, 3) := by decide +kernel
theorem dX7_line_28 : decode cX7_line 28 = .ok (.ldc 58, 2) := by decide +kernel
theorem dX7_line_30 : decode cX7_line 30 = .ok (.ireturn, 1) := by decide +kernel
theorem dX7_line_31 : decode cX7_line 31 = .ok (.aload_n 0, 1) := by decide +kernel
theorem dX7_line_32 : decode cX7_line 32 = .ok (.getfield 10, 3) := by decide +kernel
theorem dX7_line_35 : decode cX7_line 35 = .ok (.getfield 93, 3) := by decide +kernel
theorem dX7_line_38 : decode cX7_line 38 = .ok (.getfield 97, 3) := by decide +kernel
theorem dX7_line_41 : decode cX7_line 41 = .ok (.bipush 16, 2) := by decide +kernel
theorem dX7_line_43 : decode cX7_line 43 = .ok (.if_icmp .lt 6, 3) := by decide +kernel
theorem dX7_line_46 : decode cX7_line 46 = .ok (.ldc 85, 2) := by decide +kernel
theorem dX7_line_48 : decode cX7_line 48 = .ok (.ireturn, 1) := by decide +kernel
theorem dX7_line_49 : decode cX7_line 49 = .ok (.aload_n 0, 1) := by decide +kernel
theorem dX7_line_50 : decode cX7_line 50 = .ok (.getfield 22, 3) := by decide +kernel
theorem dX7_line_53 : decode cX7_line 53 = .ok (.aload_n 0, 1) := by decide +kernel
theorem dX7_line_54 : decode cX7_line 54 = .ok (.getfield 10, 3) := by decide +kernel
theorem dX7_line_57 : decode cX7_line 57 = .ok (.invokevirtual 59, 3) := by decide +kernel
theorem dX7_line_60 : decode cX7_line 60 = .ok (.aload_n 0, 1) := by decide +kernel
theorem dX7_line_61 : decode cX7_line 61 = .ok (.getfield 10, 3) := by decide +kernel
theorem dX7_line_64 : decode cX7_line 64 = .ok (.getfield 93, 3) := by decide +kernel
theorem dX7_line_67 : decode cX7_line 67 = .ok (.iload_n 1, 1) := by decide +kernel
theorem dX7_line_68 : decode cX7_line 68 = .ok (.iload_n 2, 1) := by decide +kernel
theorem dX7_line_69 : decode cX7_line 69 = .ok (.iload_n 3, 1) := by decide +kernel
theorem dX7_line_70 : decode cX7_line 70 = .ok (.iload 4, 2) := by decide +kernel
theorem dX7_line_72 : decode cX7_line 72 = .ok (.invokevirtual 100, 3) := by decide +kernel
theorem dX7_line_75 : decode cX7_line 75 = .ok (.ireturn, 1) := by decide +kernel
theorem dX7_leave_0 : decode cX7_leave 0 = .ok (.aload_n 0, 1) := by decide +kernel
theorem dX7_leave_1 : decode cX7_leave 1 = .ok (.getfield 10, 3) := by decide +kernel
theorem dX7_leave_4 : decode cX7_leave 4 = .ok (.getfield 70, 3) := by decide +kernel
theorem dX7_leave_7 : decode cX7_leave 7 = .ok (.iload_n 1, 1) := by decide +kernel
theorem dX7_leave_8 : decode cX7_leave 8 = .ok (.invokevirtual 103, 3) := by decide +kernel
theorem dX7_leave_11 : decode cX7_leave 11 = .ok (.ifCond .eq 12, 3) := by decide +kernel
theorem dX7_leave_14 : decode cX7_leave 14 = .ok (.iload_n 2, 1) := by decide +kernel
theorem dX7_leave_15 : decode cX7_leave 15 = .ok (.iconst 0, 1) := by decide +kernel
theorem dX7_leave_16 : decode cX7_leave 16 = .ok (.iconst 1, 1) := by decide +kernel
theorem dX7_leave_17 : decode cX7_leave 17 = .ok (.invokestatic 47, 3) := by decide +kernel
theorem dX7_leave_20 : decode cX7_leave 20 = .ok (.ifCond .ne 6, 3) := by decide +kernel
theorem dX7_leave_23 : decode cX7_leave 23 = .ok (.ldc 58, 2) := by decide +kernel
theorem dX7_leave_25 : decode cX7_leave 25 = .ok (.ireturn, 1) := by decide +kernel
theorem dX7_leave_26 : decode cX7_leave 26 = .ok (.aload_n 0, 1) := by decide +kernel
theorem dX7_leave_27 : decode cX7_leave 27 = .ok (.getfield 10, 3) := by decide +kernel
theorem dX7_leave_30 : decode cX7_leave 30 = .ok (.getfield 70, 3) := by decide +kernel
theorem dX7_leave_33 : decode cX7_leave 33 = .ok (.getfield 106, 3) := by decide +kernel
theorem dX7_leave_36 : decode cX7_leave 36 = .ok (.iload_n 1, 1) := by decide +kernel
theorem dX7_leave_37 : decode cX7_leave 37 = .ok (.iaload, 1) := by decide +kernel
theorem dX7_leave_38 : decode cX7_leave 38 = .ok (.iload_n 2, 1) := by decide +kernel
theorem dX7_leave_39 : decode cX7_leave 39 = .ok (.if_icmp .eq 14, 3) := by decide +kernel
theorem dX7_leave_42 : decode cX7_leave 42 = .ok (.aload_n 0, 1) := by decide +kernel
theorem dX7_leave_43 : decode cX7_leave 43 = .ok (.getfield 10, 3) := by decide +kernel
theorem dX7_leave_46 : decode cX7_leave 46 = .ok (.getfield 109, 3) := by decide +kernel
theorem dX7_leave_49 : decode cX7_leave 49 = .ok (.iload_n 1, 1) := by decide +kernel
theorem dX7_leave_50 : decode cX7_leave 50 = .ok (.if_icmp .ne 6, 3) := by decide +kernel
theorem dX7_leave_53 : decode cX7_leave 53 = .ok (.ldc 80, 2) := by decide +kernel
theorem dX7_leave_55 : decode cX7_leave 55 = .ok (.ireturn, 1) := by decide +kernel
theorem dX7_leave_56 : decode cX7_leave 56 = .ok (.aload_n 0, 1) := by decide +kernel
theorem dX7_leave_57 : decode cX7_leave 57 = .ok (.getfield 22, 3) := by decide +kernel
theorem dX7_leave_60 : decode cX7_leave 60 = .ok (.aload_n 0, 1) := by decide +kernel
theorem dX7_leave_61 : decode cX7_leave 61 = .ok (.getfield 10, 3) := by decide +kernel
theorem dX7_leave_64 : decode cX7_leave 64 = .ok (.invokevirtual 59, 3) := by decide +kernel
theorem dX7_leave_67 : decode cX7_leave 67 = .ok (.aload_n 0, 1) := by decide +kernel
theorem dX7_leave_68 : decode cX7_leave 68 = .ok (.getfield 10, 3) := by decide +kernel
theorem dX7_leave_71 : decode cX7_leave 71 = .ok (.getfield 70, 3) := by decide +kernel
theorem dX7_leave_74 : decode cX7_leave 74 = .ok (.getfield 106, 3) := by decide +kernel
theorem dX7_leave_77 : decode cX7_leave 77 = .ok (.iload_n 1, 1) := by decide +kernel
theorem dX7_leave_78 : decode cX7_leave 78 = .ok (.iload_n 2, 1) := by decide +kernel
theorem dX7_leave_79 : decode cX7_leave 79 = .ok (.iastore, 1) := by decide +kernel
theorem dX7_leave_80 : decode cX7_leave 80 = .ok (.aload_n 0, 1) := by decide +kernel
theorem dX7_leave_81 : decode cX7_leave 81 = .ok (.getfield 10, 3) := by decide +kernel
theorem dX7_leave_84 : decode cX7_leave 84 = .ok (.getfield 70, 3) := by decide +kernel
theorem dX7_leave_87 : decode cX7_leave 87 = .ok (.invokevirtual 112, 3) := by decide +kernel
theorem dX7_leave_90 : decode cX7_leave 90 = .ok (.ireturn, 1) := by decide +kernel
theorem dX7_refill_0 : decode cX7_refill 0 = .ok (.aload_n 0, 1) := by decide +kernel
theorem dX7_refill_1 : decode cX7_refill 1 = .ok (.getfield 10, 3) := by decide +kernel
theorem dX7_refill_4 : decode cX7_refill 4 = .ok (.getfield 70, 3) := by decide +kernel
theorem dX7_refill_7 : decode cX7_refill 7 = .ok (.iload_n 1, 1) := by decide +kernel
theorem dX7_refill_8 : decode cX7_refill 8 = .ok (.invokevirtual 103, 3) := by decide +kernel
theorem dX7_refill_11 : decode cX7_refill 11 = .ok (.ifCond .ne 6, 3) := by decide +kernel
theorem dX7_refill_14 : decode cX7_refill 14 = .ok (.ldc 58, 2) := by decide +kernel
theorem dX7_refill_16 : decode cX7_refill 16 = .ok (.ireturn, 1) := by decide +kernel
theorem dX7_refill_17 : decode cX7_refill 17 = .ok (.aload_n 0, 1) := by decide +kernel
theorem dX7_refill_18 : decode cX7_refill 18 = .ok (.getfield 10, 3) := by decide +kernel
theorem dX7_refill_21 : decode cX7_refill 21 = .ok (.getfield 70, 3) := by decide +kernel
theorem dX7_refill_24 : decode cX7_refill 24 = .ok (.getfield 116, 3) := by decide +kernel
theorem dX7_refill_27 : decode cX7_refill 27 = .ok (.iload_n 1, 1) := by decide +kernel
theorem dX7_refill_28 : decode cX7_refill 28 = .ok (.iaload, 1) := by decide +kernel
theorem dX7_refill_29 : decode cX7_refill 29 = .ok (.aload_n 0, 1) := by decide +kernel
theorem dX7_refill_30 : decode cX7_refill 30 = .ok (.getfield 10, 3) := by decide +kernel
theorem dX7_refill_33 : decode cX7_refill 33 = .ok (.getfield 70, 3) := by decide +kernel
theorem dX7_refill_36 : decode cX7_refill 36 = .ok (.getfield 119, 3) := by decide +kernel
theorem dX7_refill_39 : decode cX7_refill 39 = .ok (.iload_n 1, 1) := by decide +kernel
theorem dX7_refill_40 : decode cX7_refill 40 = .ok (.iaload, 1) := by decide +kernel
theorem dX7_refill_41 : decode cX7_refill 41 = .ok (.isub, 1) := by decide +kernel
theorem dX7_refill_42 : decode cX7_refill 42 = .ok (.istore_n 2, 1) := by decide +kernel
theorem dX7_refill_43 : decode cX7_refill 43 = .ok (.iload_n 2, 1) := by decide +kernel
theorem dX7_refill_44 : decode cX7_refill 44 = .ok (.ifCond .ne 6, 3) := by decide +kernel
theorem dX7_refill_47 : decode cX7_refill 47 = .ok (.ldc 80, 2) := by decide +kernel
theorem dX7_refill_49 : decode cX7_refill 49 = .ok (.ireturn, 1) := by decide +kernel
theorem dX7_refill_50 : decode cX7_refill 50 = .ok (.aload_n 0, 1) := by decide +kernel
theorem dX7_refill_51 : decode cX7_refill 51 = .ok (.getfield 22, 3) := by decide +kernel
theorem dX7_refill_54 : decode cX7_refill 54 = .ok (.aload_n 0, 1) := by decide +kernel
theorem dX7_refill_55 : decode cX7_refill 55 = .ok (.getfield 10, 3) := by decide +kernel
theorem dX7_refill_58 : decode cX7_refill 58 = .ok (.invokevirtual 59, 3) := by decide +kernel
theorem dX7_refill_61 : decode cX7_refill 61 = .ok (.aload_n 0, 1) := by decide +kernel
theorem dX7_refill_62 : decode cX7_refill 62 = .ok (.getfield 10, 3) := by decide +kernel
theorem dX7_refill_65 : decode cX7_refill 65 = .ok (.getfield 70, 3) := by decide +kernel
theorem dX7_refill_68 : decode cX7_refill 68 = .ok (.getfield 119, 3) := by decide +kernel
theorem dX7_refill_71 : decode cX7_refill 71 = .ok (.iload_n 1, 1) := by decide +kernel
theorem dX7_refill_72 : decode cX7_refill 72 = .ok (.aload_n 0, 1) := by decide +kernel
theorem dX7_refill_73 : decode cX7_refill 73 = .ok (.getfield 10, 3) := by decide +kernel
theorem dX7_refill_76 : decode cX7_refill 76 = .ok (.getfield 70, 3) := by decide +kernel
theorem dX7_refill_79 : decode cX7_refill 79 = .ok (.getfield 116, 3) := by decide +kernel
theorem dX7_refill_82 : decode cX7_refill 82 = .ok (.iload_n 1, 1) := by decide +kernel
theorem dX7_refill_83 : decode cX7_refill 83 = .ok (.iaload, 1) := by decide +kernel
theorem dX7_refill_84 : decode cX7_refill 84 = .ok (.iastore, 1) := by decide +kernel
theorem dX7_refill_85 : decode cX7_refill 85 = .ok (.iload_n 2, 1) := by decide +kernel
theorem dX7_refill_86 : decode cX7_refill 86 = .ok (.ireturn, 1) := by decide +kernel
theorem dX7_penOf_0 : decode cX7_penOf 0 = .ok (.aload_n 0, 1) := by decide +kernel
theorem dX7_penOf_1 : decode cX7_penOf 1 = .ok (.getfield 10, 3) := by decide +kernel
theorem dX7_penOf_4 : decode cX7_penOf 4 = .ok (.getfield 70, 3) := by decide +kernel
theorem dX7_penOf_7 : decode cX7_penOf 7 = .ok (.iload_n 1, 1) := by decide +kernel
theorem dX7_penOf_8 : decode cX7_penOf 8 = .ok (.invokevirtual 103, 3) := by decide +kernel
theorem dX7_penOf_11 : decode cX7_penOf 11 = .ok (.ifCond .ne 6, 3) := by decide +kernel
theorem dX7_penOf_14 : decode cX7_penOf 14 = .ok (.ldc 58, 2) := by decide +kernel
theorem dX7_penOf_16 : decode cX7_penOf 16 = .ok (.ireturn, 1) := by decide +kernel
theorem dX7_penOf_17 : decode cX7_penOf 17 = .ok (.iload_n 2, 1) := by decide +kernel
theorem dX7_penOf_18 : decode cX7_penOf 18 = .ok (.tableswitch 205 0 10 #[58, 71, 84, 97, 110, 123, 136, 156, 169, 181, 193], 58) := by decide +kernel
theorem dX7_penOf_76 : decode cX7_penOf 76 = .ok (.aload_n 0, 1) := by decide +kernel
theorem dX7_penOf_77 : decode cX7_penOf 77 = .ok (.getfield 10, 3) := by decide +kernel
theorem dX7_penOf_80 : decode cX7_penOf 80 = .ok (.getfield 70, 3) := by decide +kernel
theorem dX7_penOf_83 : decode cX7_penOf 83 = .ok (.getfield 122, 3) := by decide +kernel
theorem dX7_penOf_86 : decode cX7_penOf 86 = .ok (.iload_n 1, 1) := by decide +kernel
theorem dX7_penOf_87 : decode cX7_penOf 87 = .ok (.iaload, 1) := by decide +kernel
theorem dX7_penOf_88 : decode cX7_penOf 88 = .ok (.ireturn, 1) := by decide +kernel
theorem dX7_penOf_89 : decode cX7_penOf 89 = .ok (.aload_n 0, 1) := by decide +kernel
theorem dX7_penOf_90 : decode cX7_penOf 90 = .ok (.getfield 10, 3) := by decide +kernel
theorem dX7_penOf_93 : decode cX7_penOf 93 = .ok (.getfield 70, 3) := by decide +kernel
theorem dX7_penOf_96 : decode cX7_penOf 96 = .ok (.getfield 116, 3) := by decide +kernel
theorem dX7_penOf_99 : decode cX7_penOf 99 = .ok (.iload_n 1, 1) := by decide +kernel
theorem dX7_penOf_100 : decode cX7_penOf 100 = .ok (.iaload, 1) := by decide +kernel
theorem dX7_penOf_101 : decode cX7_penOf 101 = .ok (.ireturn, 1) := by decide +kernel
theorem dX7_penOf_102 : decode cX7_penOf 102 = .ok (.aload_n 0, 1) := by decide +kernel
theorem dX7_penOf_103 : decode cX7_penOf 103 = .ok (.getfield 10, 3) := by decide +kernel
theorem dX7_penOf_106 : decode cX7_penOf 106 = .ok (.getfield 70, 3) := by decide +kernel
theorem dX7_penOf_109 : decode cX7_penOf 109 = .ok (.getfield 119, 3) := by decide +kernel
theorem dX7_penOf_112 : decode cX7_penOf 112 = .ok (.iload_n 1, 1) := by decide +kernel
theorem dX7_penOf_113 : decode cX7_penOf 113 = .ok (.iaload, 1) := by decide +kernel
theorem dX7_penOf_114 : decode cX7_penOf 114 = .ok (.ireturn, 1) := by decide +kernel
theorem dX7_penOf_115 : decode cX7_penOf 115 = .ok (.aload_n 0, 1) := by decide +kernel
theorem dX7_penOf_116 : decode cX7_penOf 116 = .ok (.getfield 10, 3) := by decide +kernel
theorem dX7_penOf_119 : decode cX7_penOf 119 = .ok (.getfield 70, 3) := by decide +kernel
theorem dX7_penOf_122 : decode cX7_penOf 122 = .ok (.getfield 125, 3) := by decide +kernel
theorem dX7_penOf_125 : decode cX7_penOf 125 = .ok (.iload_n 1, 1) := by decide +kernel
theorem dX7_penOf_126 : decode cX7_penOf 126 = .ok (.iaload, 1) := by decide +kernel
theorem dX7_penOf_127 : decode cX7_penOf 127 = .ok (.ireturn, 1) := by decide +kernel
theorem dX7_penOf_128 : decode cX7_penOf 128 = .ok (.aload_n 0, 1) := by decide +kernel
theorem dX7_penOf_129 : decode cX7_penOf 129 = .ok (.getfield 10, 3) := by decide +kernel
theorem dX7_penOf_132 : decode cX7_penOf 132 = .ok (.getfield 70, 3) := by decide +kernel
theorem dX7_penOf_135 : decode cX7_penOf 135 = .ok (.getfield 128, 3) := by decide +kernel
theorem dX7_penOf_138 : decode cX7_penOf 138 = .ok (.iload_n 1, 1) := by decide +kernel
theorem dX7_penOf_139 : decode cX7_penOf 139 = .ok (.iaload, 1) := by decide +kernel
theorem dX7_penOf_140 : decode cX7_penOf 140 = .ok (.ireturn, 1) := by decide +kernel
theorem dX7_penOf_141 : decode cX7_penOf 141 = .ok (.aload_n 0, 1) := by decide +kernel
theorem dX7_penOf_142 : decode cX7_penOf 142 = .ok (.getfield 10, 3) := by decide +kernel
theorem dX7_penOf_145 : decode cX7_penOf 145 = .ok (.getfield 70, 3) := by decide +kernel
theorem dX7_penOf_148 : decode cX7_penOf 148 = .ok (.getfield 131, 3) := by decide +kernel
theorem dX7_penOf_151 : decode cX7_penOf 151 = .ok (.iload_n 1, 1) := by decide +kernel
theorem dX7_penOf_152 : decode cX7_penOf 152 = .ok (.iaload, 1) := by decide +kernel
theorem dX7_penOf_153 : decode cX7_penOf 153 = .ok (.ireturn, 1) := by decide +kernel
theorem dX7_penOf_154 : decode cX7_penOf 154 = .ok (.aload_n 0, 1) := by decide +kernel
theorem dX7_penOf_155 : decode cX7_penOf 155 = .ok (.getfield 10, 3) := by decide +kernel
theorem dX7_penOf_158 : decode cX7_penOf 158 = .ok (.getfield 109, 3) := by decide +kernel
theorem dX7_penOf_161 : decode cX7_penOf 161 = .ok (.iload_n 1, 1) := by decide +kernel
theorem dX7_penOf_162 : decode cX7_penOf 162 = .ok (.if_icmp .ne 7, 3) := by decide +kernel
theorem dX7_penOf_165 : decode cX7_penOf 165 = .ok (.iconst 1, 1) := by decide +kernel
theorem dX7_penOf_166 : decode cX7_penOf 166 = .ok (.goto 4, 3) := by decide +kernel
theorem dX7_penOf_169 : decode cX7_penOf 169 = .ok (.iconst 0, 1) := by decide +kernel
theorem dX7_penOf_170 : decode cX7_penOf 170 = .ok (.invokestatic 134, 3) := by decide +kernel
theorem dX7_penOf_173 : decode cX7_penOf 173 = .ok (.ireturn, 1) := by decide +kernel
theorem dX7_penOf_174 : decode cX7_penOf 174 = .ok (.aload_n 0, 1) := by decide +kernel
theorem dX7_penOf_175 : decode cX7_penOf 175 = .ok (.getfield 10, 3) := by decide +kernel
theorem dX7_penOf_178 : decode cX7_penOf 178 = .ok (.getfield 70, 3) := by decide +kernel
theorem dX7_penOf_181 : decode cX7_penOf 181 = .ok (.getfield 106, 3) := by decide +kernel
theorem dX7_penOf_184 : decode cX7_penOf 184 = .ok (.iload_n 1, 1) := by decide +kernel
theorem dX7_penOf_185 : decode cX7_penOf 185 = .ok (.iaload, 1) := by decide +kernel
theorem dX7_penOf_186 : decode cX7_penOf 186 = .ok (.ireturn, 1) := by decide +kernel
theorem dX7_penOf_187 : decode cX7_penOf 187 = .ok (.aload_n 0, 1) := by decide +kernel
theorem dX7_penOf_188 : decode cX7_penOf 188 = .ok (.getfield 10, 3) := by decide +kernel
theorem dX7_penOf_191 : decode cX7_penOf 191 = .ok (.iload_n 1, 1) := by decide +kernel
theorem dX7_penOf_192 : decode cX7_penOf 192 = .ok (.invokevirtual 138, 3) := by decide +kernel
theorem dX7_penOf_195 : decode cX7_penOf 195 = .ok (.invokestatic 134, 3) := by decide +kernel
theorem dX7_penOf_198 : decode cX7_penOf 198 = .ok (.ireturn, 1) := by decide +kernel
theorem dX7_penOf_199 : decode cX7_penOf 199 = .ok (.aload_n 0, 1) := by decide +kernel
theorem dX7_penOf_200 : decode cX7_penOf 200 = .ok (.getfield 10, 3) := by decide +kernel
theorem dX7_penOf_203 : decode cX7_penOf 203 = .ok (.iload_n 1, 1) := by decide +kernel
theorem dX7_penOf_204 : decode cX7_penOf 204 = .ok (.invokevirtual 141, 3) := by decide +kernel
theorem dX7_penOf_207 : decode cX7_penOf 207 = .ok (.invokestatic 134, 3) := by decide +kernel
theorem dX7_penOf_210 : decode cX7_penOf 210 = .ok (.ireturn, 1) := by decide +kernel
theorem dX7_penOf_211 : decode cX7_penOf 211 = .ok (.aload_n 0, 1) := by decide +kernel
theorem dX7_penOf_212 : decode cX7_penOf 212 = .ok (.getfield 10, 3) := by decide +kernel
theorem dX7_penOf_215 : decode cX7_penOf 215 = .ok (.getfield 93, 3) := by decide +kernel
theorem dX7_penOf_218 : decode cX7_penOf 218 = .ok (.iload_n 1, 1) := by decide +kernel
theorem dX7_penOf_219 : decode cX7_penOf 219 = .ok (.invokevirtual 144, 3) := by decide +kernel
theorem dX7_penOf_222 : decode cX7_penOf 222 = .ok (.ireturn, 1) := by decide +kernel
theorem dX7_penOf_223 : decode cX7_penOf 223 = .ok (.ldc 58, 2) := by decide +kernel
theorem dX7_penOf_225 : decode cX7_penOf 225 = .ok (.ireturn, 1) := by decide +kernel
theorem dX7_lineOf_0 : decode cX7_lineOf 0 = .ok (.aload_n 0, 1) := by decide +kernel
theorem dX7_lineOf_1 : decode cX7_lineOf 1 = .ok (.getfield 10, 3) := by decide +kernel
theorem dX7_lineOf_4 : decode cX7_lineOf 4 = .ok (.getfield 93, 3) := by decide +kernel
theorem dX7_lineOf_7 : decode cX7_lineOf 7 = .ok (.iload_n 1, 1) := by decide +kernel
theorem dX7_lineOf_8 : decode cX7_lineOf 8 = .ok (.invokevirtual 148, 3) := by decide +kernel
theorem dX7_lineOf_11 : decode cX7_lineOf 11 = .ok (.ifCond .eq 13, 3) := by decide +kernel
theorem dX7_lineOf_14 : decode cX7_lineOf 14 = .ok (.iload_n 2, 1) := by decide +kernel
theorem dX7_lineOf_15 : decode cX7_lineOf 15 = .ok (.iconst 0, 1) := by decide +kernel
theorem dX7_lineOf_16 : decode cX7_lineOf 16 = .ok (.bipush 9, 2) := by decide +kernel
theorem dX7_lineOf_18 : decode cX7_lineOf 18 = .ok (.invokestatic 47, 3) := by decide +kernel
theorem dX7_lineOf_21 : decode cX7_lineOf 21 = .ok (.ifCond .ne 6, 3) := by decide +kernel
theorem dX7_lineOf_24 : decode cX7_lineOf 24 = .ok (.ldc 58, 2) := by decide +kernel
theorem dX7_lineOf_26 : decode cX7_lineOf 26 = .ok (.ireturn, 1) := by decide +kernel
theorem dX7_lineOf_27 : decode cX7_lineOf 27 = .ok (.iload_n 2, 1) := by decide +kernel
theorem dX7_lineOf_28 : decode cX7_lineOf 28 = .ok (.bipush 6, 2) := by decide +kernel
theorem dX7_lineOf_30 : decode cX7_lineOf 30 = .ok (.if_icmp .eq 15, 3) := by decide +kernel
theorem dX7_lineOf_33 : decode cX7_lineOf 33 = .ok (.iload_n 2, 1) := by decide +kernel
theorem dX7_lineOf_34 : decode cX7_lineOf 34 = .ok (.bipush 7, 2) := by decide +kernel
theorem dX7_lineOf_36 : decode cX7_lineOf 36 = .ok (.if_icmp .eq 9, 3) := by decide +kernel
theorem dX7_lineOf_39 : decode cX7_lineOf 39 = .ok (.iload_n 2, 1) := by decide +kernel
theorem dX7_lineOf_40 : decode cX7_lineOf 40 = .ok (.bipush 9, 2) := by decide +kernel
theorem dX7_lineOf_42 : decode cX7_lineOf 42 = .ok (.if_icmp .ne 7, 3) := by decide +kernel
theorem dX7_lineOf_45 : decode cX7_lineOf 45 = .ok (.iconst 1, 1) := by decide +kernel
theorem dX7_lineOf_46 : decode cX7_lineOf 46 = .ok (.goto 4, 3) := by decide +kernel
theorem dX7_lineOf_49 : decode cX7_lineOf 49 = .ok (.iconst 0, 1) := by decide +kernel
theorem dX7_lineOf_50 : decode cX7_lineOf 50 = .ok (.istore_n 3, 1) := by decide +kernel
theorem dX7_lineOf_51 : decode cX7_lineOf 51 = .ok (.iload_n 3, 1) := by decide +kernel
theorem dX7_lineOf_52 : decode cX7_lineOf 52 = .ok (.ifCond .eq 20, 3) := by decide +kernel
theorem dX7_lineOf_55 : decode cX7_lineOf 55 = .ok (.aload_n 0, 1) := by decide +kernel
theorem dX7_lineOf_56 : decode cX7_lineOf 56 = .ok (.getfield 10, 3) := by decide +kernel
theorem dX7_lineOf_59 : decode cX7_lineOf 59 = .ok (.getfield 93, 3) := by decide +kernel
theorem dX7_lineOf_62 : decode cX7_lineOf 62 = .ok (.iload_n 1, 1) := by decide +kernel
theorem dX7_lineOf_63 : decode cX7_lineOf 63 = .ok (.invokevirtual 149, 3) := by decide +kernel
theorem dX7_lineOf_66 : decode cX7_lineOf 66 = .ok (.ifCond .ne 6, 3) := by decide +kernel
theorem dX7_lineOf_69 : decode cX7_lineOf 69 = .ok (.ldc 152, 2) := by decide +kernel
theorem dX7_lineOf_71 : decode cX7_lineOf 71 = .ok (.ireturn, 1) := by decide +kernel
theorem dX7_lineOf_72 : decode cX7_lineOf 72 = .ok (.iload_n 2, 1) := by decide +kernel
theorem dX7_lineOf_73 : decode cX7_lineOf 73 = .ok (.tableswitch 169 0 8 #[51, 64, 77, 90, 103, 116, 131, 144, 157], 51) := by decide +kernel
theorem dX7_lineOf_124 : decode cX7_lineOf 124 = .ok (.aload_n 0, 1) := by decide +kernel
theorem dX7_lineOf_125 : decode cX7_lineOf 125 = .ok (.getfield 10, 3) := by decide +kernel
theorem dX7_lineOf_128 : decode cX7_lineOf 128 = .ok (.getfield 93, 3) := by decide +kernel
theorem dX7_lineOf_131 : decode cX7_lineOf 131 = .ok (.getfield 153, 3) := by decide +kernel
theorem dX7_lineOf_134 : decode cX7_lineOf 134 = .ok (.iload_n 1, 1) := by decide +kernel
theorem dX7_lineOf_135 : decode cX7_lineOf 135 = .ok (.iaload, 1) := by decide +kernel
theorem dX7_lineOf_136 : decode cX7_lineOf 136 = .ok (.ireturn, 1) := by decide +kernel
theorem dX7_lineOf_137 : decode cX7_lineOf 137 = .ok (.aload_n 0, 1) := by decide +kernel
theorem dX7_lineOf_138 : decode cX7_lineOf 138 = .ok (.getfield 10, 3) := by decide +kernel
theorem dX7_lineOf_141 : decode cX7_lineOf 141 = .ok (.getfield 93, 3) := by decide +kernel
theorem dX7_lineOf_144 : decode cX7_lineOf 144 = .ok (.getfield 156, 3) := by decide +kernel
theorem dX7_lineOf_147 : decode cX7_lineOf 147 = .ok (.iload_n 1, 1) := by decide +kernel
theorem dX7_lineOf_148 : decode cX7_lineOf 148 = .ok (.iaload, 1) := by decide +kernel
theorem dX7_lineOf_149 : decode cX7_lineOf 149 = .ok (.ireturn, 1) := by decide +kernel
theorem dX7_lineOf_150 : decode cX7_lineOf 150 = .ok (.aload_n 0, 1) := by decide +kernel
theorem dX7_lineOf_151 : decode cX7_lineOf 151 = .ok (.getfield 10, 3) := by decide +kernel
theorem dX7_lineOf_154 : decode cX7_lineOf 154 = .ok (.getfield 93, 3) := by decide +kernel
theorem dX7_lineOf_157 : decode cX7_lineOf 157 = .ok (.getfield 159, 3) := by decide +kernel
theorem dX7_lineOf_160 : decode cX7_lineOf 160 = .ok (.iload_n 1, 1) := by decide +kernel
theorem dX7_lineOf_161 : decode cX7_lineOf 161 = .ok (.iaload, 1) := by decide +kernel
theorem dX7_lineOf_162 : decode cX7_lineOf 162 = .ok (.ireturn, 1) := by decide +kernel
theorem dX7_lineOf_163 : decode cX7_lineOf 163 = .ok (.aload_n 0, 1) := by decide +kernel
theorem dX7_lineOf_164 : decode cX7_lineOf 164 = .ok (.getfield 10, 3) := by decide +kernel
theorem dX7_lineOf_167 : decode cX7_lineOf 167 = .ok (.getfield 93, 3) := by decide +kernel
theorem dX7_lineOf_170 : decode cX7_lineOf 170 = .ok (.getfield 162, 3) := by decide +kernel
theorem dX7_lineOf_173 : decode cX7_lineOf 173 = .ok (.iload_n 1, 1) := by decide +kernel
theorem dX7_lineOf_174 : decode cX7_lineOf 174 = .ok (.iaload, 1) := by decide +kernel
theorem dX7_lineOf_175 : decode cX7_lineOf 175 = .ok (.ireturn, 1) := by decide +kernel
theorem dX7_lineOf_176 : decode cX7_lineOf 176 = .ok (.aload_n 0, 1) := by decide +kernel
theorem dX7_lineOf_177 : decode cX7_lineOf 177 = .ok (.getfield 10, 3) := by decide +kernel
theorem dX7_lineOf_180 : decode cX7_lineOf 180 = .ok (.getfield 93, 3) := by decide +kernel
theorem dX7_lineOf_183 : decode cX7_lineOf 183 = .ok (.getfield 165, 3) := by decide +kernel
theorem dX7_lineOf_186 : decode cX7_lineOf 186 = .ok (.iload_n 1, 1) := by decide +kernel
theorem dX7_lineOf_187 : decode cX7_lineOf 187 = .ok (.iaload, 1) := by decide +kernel
theorem dX7_lineOf_188 : decode cX7_lineOf 188 = .ok (.ireturn, 1) := by decide +kernel
theorem dX7_lineOf_189 : decode cX7_lineOf 189 = .ok (.aload_n 0, 1) := by decide +kernel
theorem dX7_lineOf_190 : decode cX7_lineOf 190 = .ok (.getfield 10, 3) := by decide +kernel
theorem dX7_lineOf_193 : decode cX7_lineOf 193 = .ok (.getfield 93, 3) := by decide +kernel
theorem dX7_lineOf_196 : decode cX7_lineOf 196 = .ok (.iload_n 1, 1) := by decide +kernel
theorem dX7_lineOf_197 : decode cX7_lineOf 197 = .ok (.invokevirtual 149, 3) := by decide +kernel
theorem dX7_lineOf_200 : decode cX7_lineOf 200 = .ok (.invokestatic 134, 3) := by decide +kernel
theorem dX7_lineOf_203 : decode cX7_lineOf 203 = .ok (.ireturn, 1) := by decide +kernel
theorem dX7_lineOf_204 : decode cX7_lineOf 204 = .ok (.aload_n 0, 1) := by decide +kernel
theorem dX7_lineOf_205 : decode cX7_lineOf 205 = .ok (.getfield 10, 3) := by decide +kernel
theorem dX7_lineOf_208 : decode cX7_lineOf 208 = .ok (.getfield 93, 3) := by decide +kernel
theorem dX7_lineOf_211 : decode cX7_lineOf 211 = .ok (.getfield 168, 3) := by decide +kernel
theorem dX7_lineOf_214 : decode cX7_lineOf 214 = .ok (.iload_n 1, 1) := by decide +kernel
theorem dX7_lineOf_215 : decode cX7_lineOf 215 = .ok (.iaload, 1) := by decide +kernel
theorem dX7_lineOf_216 : decode cX7_lineOf 216 = .ok (.ireturn, 1) := by decide +kernel
theorem dX7_lineOf_217 : decode cX7_lineOf 217 = .ok (.aload_n 0, 1) := by decide +kernel
theorem dX7_lineOf_218 : decode cX7_lineOf 218 = .ok (.getfield 10, 3) := by decide +kernel
theorem dX7_lineOf_221 : decode cX7_lineOf 221 = .ok (.getfield 93, 3) := by decide +kernel
theorem dX7_lineOf_224 : decode cX7_lineOf 224 = .ok (.getfield 171, 3) := by decide +kernel
theorem dX7_lineOf_227 : decode cX7_lineOf 227 = .ok (.iload_n 1, 1) := by decide +kernel
theorem dX7_lineOf_228 : decode cX7_lineOf 228 = .ok (.iaload, 1) := by decide +kernel
theorem dX7_lineOf_229 : decode cX7_lineOf 229 = .ok (.ireturn, 1) := by decide +kernel
theorem dX7_lineOf_230 : decode cX7_lineOf 230 = .ok (.aload_n 0, 1) := by decide +kernel
theorem dX7_lineOf_231 : decode cX7_lineOf 231 = .ok (.getfield 10, 3) := by decide +kernel
theorem dX7_lineOf_234 : decode cX7_lineOf 234 = .ok (.iload_n 1, 1) := by decide +kernel
theorem dX7_lineOf_235 : decode cX7_lineOf 235 = .ok (.invokevirtual 174, 3) := by decide +kernel
theorem dX7_lineOf_238 : decode cX7_lineOf 238 = .ok (.invokestatic 134, 3) := by decide +kernel
theorem dX7_lineOf_241 : decode cX7_lineOf 241 = .ok (.ireturn, 1) := by decide +kernel
theorem dX7_lineOf_242 : decode cX7_lineOf 242 = .ok (.aload_n 0, 1) := by decide +kernel
theorem dX7_lineOf_243 : decode cX7_lineOf 243 = .ok (.getfield 10, 3) := by decide +kernel
theorem dX7_lineOf_246 : decode cX7_lineOf 246 = .ok (.iload_n 1, 1) := by decide +kernel
theorem dX7_lineOf_247 : decode cX7_lineOf 247 = .ok (.invokevirtual 177, 3) := by decide +kernel
theorem dX7_lineOf_250 : decode cX7_lineOf 250 = .ok (.invokestatic 181, 3) := by decide +kernel
theorem dX7_lineOf_253 : decode cX7_lineOf 253 = .ok (.ireturn, 1) := by decide +kernel
theorem dX7_take_0 : decode cX7_take 0 = .ok (.aload_n 0, 1) := by decide +kernel
theorem dX7_take_1 : decode cX7_take 1 = .ok (.getfield 10, 3) := by decide +kernel
theorem dX7_take_4 : decode cX7_take 4 = .ok (.getfield 70, 3) := by decide +kernel
theorem dX7_take_7 : decode cX7_take 7 = .ok (.iload_n 1, 1) := by decide +kernel
theorem dX7_take_8 : decode cX7_take 8 = .ok (.invokevirtual 103, 3) := by decide +kernel
theorem dX7_take_11 : decode cX7_take 11 = .ok (.ifCond .ne 6, 3) := by decide +kernel
theorem dX7_take_14 : decode cX7_take 14 = .ok (.ldc 58, 2) := by decide +kernel
theorem dX7_take_16 : decode cX7_take 16 = .ok (.ireturn, 1) := by decide +kernel
theorem dX7_take_17 : decode cX7_take 17 = .ok (.aload_n 0, 1) := by decide +kernel
theorem dX7_take_18 : decode cX7_take 18 = .ok (.getfield 10, 3) := by decide +kernel
theorem dX7_take_21 : decode cX7_take 21 = .ok (.iload_n 1, 1) := by decide +kernel
theorem dX7_take_22 : decode cX7_take 22 = .ok (.invokevirtual 185, 3) := by decide +kernel
theorem dX7_take_25 : decode cX7_take 25 = .ok (.istore_n 2, 1) := by decide +kernel
theorem dX7_take_26 : decode cX7_take 26 = .ok (.iload_n 2, 1) := by decide +kernel
theorem dX7_take_27 : decode cX7_take 27 = .ok (.ifCond .eq 5, 3) := by decide +kernel
theorem dX7_take_30 : decode cX7_take 30 = .ok (.iload_n 2, 1) := by decide +kernel
theorem dX7_take_31 : decode cX7_take 31 = .ok (.ireturn, 1) := by decide +kernel
theorem dX7_take_32 : decode cX7_take 32 = .ok (.aload_n 0, 1) := by decide +kernel
theorem dX7_take_33 : decode cX7_take 33 = .ok (.getfield 22, 3) := by decide +kernel
theorem dX7_take_36 : decode cX7_take 36 = .ok (.aload_n 0, 1) := by decide +kernel
theorem dX7_take_37 : decode cX7_take 37 = .ok (.getfield 10, 3) := by decide +kernel
theorem dX7_take_40 : decode cX7_take 40 = .ok (.invokevirtual 59, 3) := by decide +kernel
theorem dX7_take_43 : decode cX7_take 43 = .ok (.iconst 1, 1) := by decide +kernel
theorem dX7_take_44 : decode cX7_take 44 = .ok (.aload_n 0, 1) := by decide +kernel
theorem dX7_take_45 : decode cX7_take 45 = .ok (.getfield 10, 3) := by decide +kernel
theorem dX7_take_48 : decode cX7_take 48 = .ok (.iload_n 1, 1) := by decide +kernel
theorem dX7_take_49 : decode cX7_take 49 = .ok (.invokevirtual 188, 3) := by decide +kernel
theorem dX7_take_52 : decode cX7_take 52 = .ok (.iadd, 1) := by decide +kernel
theorem dX7_take_53 : decode cX7_take 53 = .ok (.ireturn, 1) := by decide +kernel
theorem dX7_draw_0 : decode cX7_draw 0 = .ok (.aload_n 0, 1) := by decide +kernel
theorem dX7_draw_1 : decode cX7_draw 1 = .ok (.getfield 10, 3) := by decide +kernel
theorem dX7_draw_4 : decode cX7_draw 4 = .ok (.getfield 93, 3) := by decide +kernel
theorem dX7_draw_7 : decode cX7_draw 7 = .ok (.iload_n 1, 1) := by decide +kernel
theorem dX7_draw_8 : decode cX7_draw 8 = .ok (.invokevirtual 148, 3) := by decide +kernel
theorem dX7_draw_11 : decode cX7_draw 11 = .ok (.ifCond .eq 12, 3) := by decide +kernel
theorem dX7_draw_14 : decode cX7_draw 14 = .ok (.iload_n 2, 1) := by decide +kernel
theorem dX7_draw_15 : decode cX7_draw 15 = .ok (.iconst 0, 1) := by decide +kernel
theorem dX7_draw_16 : decode cX7_draw 16 = .ok (.iconst 1, 1) := by decide +kernel
theorem dX7_draw_17 : decode cX7_draw 17 = .ok (.invokestatic 47, 3) := by decide +kernel
theorem dX7_draw_20 : decode cX7_draw 20 = .ok (.ifCond .ne 6, 3) := by decide +kernel
theorem dX7_draw_23 : decode cX7_draw 23 = .ok (.ldc 58, 2) := by decide +kernel
theorem dX7_draw_25 : decode cX7_draw 25 = .ok (.ireturn, 1) := by decide +kernel
theorem dX7_draw_26 : decode cX7_draw 26 = .ok (.aload_n 0, 1) := by decide +kernel
theorem dX7_draw_27 : decode cX7_draw 27 = .ok (.getfield 10, 3) := by decide +kernel
theorem dX7_draw_30 : decode cX7_draw 30 = .ok (.iload_n 1, 1) := by decide +kernel
theorem dX7_draw_31 : decode cX7_draw 31 = .ok (.iload_n 2, 1) := by decide +kernel
theorem dX7_draw_32 : decode cX7_draw 32 = .ok (.iconst 0, 1) := by decide +kernel
theorem dX7_draw_33 : decode cX7_draw 33 = .ok (.invokevirtual 194, 3) := by decide +kernel
theorem dX7_draw_36 : decode cX7_draw 36 = .ok (.ifCond .eq 6, 3) := by decide +kernel
theorem dX7_draw_39 : decode cX7_draw 39 = .ok (.ldc 80, 2) := by decide +kernel
theorem dX7_draw_41 : decode cX7_draw 41 = .ok (.ireturn, 1) := by decide +kernel
theorem dX7_draw_42 : decode cX7_draw 42 = .ok (.aload_n 0, 1) := by decide +kernel
theorem dX7_draw_43 : decode cX7_draw 43 = .ok (.getfield 22, 3) := by decide +kernel
theorem dX7_draw_46 : decode cX7_draw 46 = .ok (.aload_n 0, 1) := by decide +kernel
theorem dX7_draw_47 : decode cX7_draw 47 = .ok (.getfield 10, 3) := by decide +kernel
theorem dX7_draw_50 : decode cX7_draw 50 = .ok (.invokevirtual 59, 3) := by decide +kernel
theorem dX7_draw_53 : decode cX7_draw 53 = .ok (.aload_n 0, 1) := by decide +kernel
theorem dX7_draw_54 : decode cX7_draw 54 = .ok (.getfield 10, 3) := by decide +kernel
theorem dX7_draw_57 : decode cX7_draw 57 = .ok (.iload_n 1, 1) := by decide +kernel
theorem dX7_draw_58 : decode cX7_draw 58 = .ok (.iload_n 2, 1) := by decide +kernel
theorem dX7_draw_59 : decode cX7_draw 59 = .ok (.invokevirtual 197, 3) := by decide +kernel
theorem dX7_draw_62 : decode cX7_draw 62 = .ok (.aload_n 0, 1) := by decide +kernel
theorem dX7_draw_63 : decode cX7_draw 63 = .ok (.getfield 10, 3) := by decide +kernel
theorem dX7_draw_66 : decode cX7_draw 66 = .ok (.getfield 201, 3) := by decide +kernel
theorem dX7_draw_69 : decode cX7_draw 69 = .ok (.ireturn, 1) := by decide +kernel
theorem dX7_erase_0 : decode cX7_erase 0 = .ok (.aload_n 0, 1) := by decide +kernel
theorem dX7_erase_1 : decode cX7_erase 1 = .ok (.getfield 10, 3) := by decide +kernel
theorem dX7_erase_4 : decode cX7_erase 4 = .ok (.getfield 93, 3) := by decide +kernel
theorem dX7_erase_7 : decode cX7_erase 7 = .ok (.iload_n 1, 1) := by decide +kernel
theorem dX7_erase_8 : decode cX7_erase 8 = .ok (.invokevirtual 148, 3) := by decide +kernel
theorem dX7_erase_11 : decode cX7_erase 11 = .ok (.ifCond .ne 6, 3) := by decide +kernel
theorem dX7_erase_14 : decode cX7_erase 14 = .ok (.ldc 58, 2) := by decide +kernel
theorem dX7_erase_16 : decode cX7_erase 16 = .ok (.ireturn, 1) := by decide +kernel
theorem dX7_erase_17 : decode cX7_erase 17 = .ok (.aload_n 0, 1) := by decide +kernel
theorem dX7_erase_18 : decode cX7_erase 18 = .ok (.getfield 10, 3) := by decide +kernel
theorem dX7_erase_21 : decode cX7_erase 21 = .ok (.getfield 93, 3) := by decide +kernel
theorem dX7_erase_24 : decode cX7_erase 24 = .ok (.iload_n 1, 1) := by decide +kernel
theorem dX7_erase_25 : decode cX7_erase 25 = .ok (.invokevirtual 149, 3) := by decide +kernel
theorem dX7_erase_28 : decode cX7_erase 28 = .ok (.ifCond .ne 6, 3) := by decide +kernel
theorem dX7_erase_31 : decode cX7_erase 31 = .ok (.ldc 80, 2) := by decide +kernel
theorem dX7_erase_33 : decode cX7_erase 33 = .ok (.ireturn, 1) := by decide +kernel
theorem dX7_erase_34 : decode cX7_erase 34 = .ok (.aload_n 0, 1) := by decide +kernel
theorem dX7_erase_35 : decode cX7_erase 35 = .ok (.getfield 22, 3) := by decide +kernel
theorem dX7_erase_38 : decode cX7_erase 38 = .ok (.aload_n 0, 1) := by decide +kernel
theorem dX7_erase_39 : decode cX7_erase 39 = .ok (.getfield 10, 3) := by decide +kernel
theorem dX7_erase_42 : decode cX7_erase 42 = .ok (.invokevirtual 59, 3) := by decide +kernel
theorem dX7_erase_45 : decode cX7_erase 45 = .ok (.aload_n 0, 1) := by decide +kernel
theorem dX7_erase_46 : decode cX7_erase 46 = .ok (.getfield 10, 3) := by decide +kernel
theorem dX7_erase_49 : decode cX7_erase 49 = .ok (.getfield 93, 3) := by decide +kernel
theorem dX7_erase_52 : decode cX7_erase 52 = .ok (.getfield 168, 3) := by decide +kernel
theorem dX7_erase_55 : decode cX7_erase 55 = .ok (.iload_n 1, 1) := by decide +kernel
theorem dX7_erase_56 : decode cX7_erase 56 = .ok (.iaload, 1) := by decide +kernel
theorem dX7_erase_57 : decode cX7_erase 57 = .ok (.istore_n 2, 1) := by decide +kernel
theorem dX7_erase_58 : decode cX7_erase 58 = .ok (.aload_n 0, 1) := by decide +kernel
theorem dX7_erase_59 : decode cX7_erase 59 = .ok (.getfield 10, 3) := by decide +kernel
theorem dX7_erase_62 : decode cX7_erase 62 = .ok (.getfield 93, 3) := by decide +kernel
theorem dX7_erase_65 : decode cX7_erase 65 = .ok (.getfield 168, 3) := by decide +kernel
theorem dX7_erase_68 : decode cX7_erase 68 = .ok (.iload_n 1, 1) := by decide +kernel
theorem dX7_erase_69 : decode cX7_erase 69 = .ok (.iconst (-1), 1) := by decide +kernel
theorem dX7_erase_70 : decode cX7_erase 70 = .ok (.iastore, 1) := by decide +kernel
theorem dX7_erase_71 : decode cX7_erase 71 = .ok (.iload_n 2, 1) := by decide +kernel
theorem dX7_erase_72 : decode cX7_erase 72 = .ok (.ireturn, 1) := by decide +kernel
theorem dX7_waits_0 : decode cX7_waits 0 = .ok (.aload_n 0, 1) := by decide +kernel
theorem dX7_waits_1 : decode cX7_waits 1 = .ok (.getfield 10, 3) := by decide +kernel
theorem dX7_waits_4 : decode cX7_waits 4 = .ok (.iload_n 1, 1) := by decide +kernel
theorem dX7_waits_5 : decode cX7_waits 5 = .ok (.invokevirtual 204, 3) := by decide +kernel
theorem dX7_waits_8 : decode cX7_waits 8 = .ok (.istore_n 2, 1) := by decide +kernel
theorem dX7_waits_9 : decode cX7_waits 9 = .ok (.iload_n 2, 1) := by decide +kernel
theorem dX7_waits_10 : decode cX7_waits 10 = .ok (.ifCond .eq 5, 3) := by decide +kernel
theorem dX7_waits_13 : decode cX7_waits 13 = .ok (.iload_n 2, 1) := by decide +kernel
theorem dX7_waits_14 : decode cX7_waits 14 = .ok (.ireturn, 1) := by decide +kernel
theorem dX7_waits_15 : decode cX7_waits 15 = .ok (.aload_n 0, 1) := by decide +kernel
theorem dX7_waits_16 : decode cX7_waits 16 = .ok (.getfield 22, 3) := by decide +kernel
theorem dX7_waits_19 : decode cX7_waits 19 = .ok (.aload_n 0, 1) := by decide +kernel
theorem dX7_waits_20 : decode cX7_waits 20 = .ok (.getfield 10, 3) := by decide +kernel
theorem dX7_waits_23 : decode cX7_waits 23 = .ok (.invokevirtual 59, 3) := by decide +kernel
theorem dX7_waits_26 : decode cX7_waits 26 = .ok (.aload_n 0, 1) := by decide +kernel
theorem dX7_waits_27 : decode cX7_waits 27 = .ok (.getfield 10, 3) := by decide +kernel
theorem dX7_waits_30 : decode cX7_waits 30 = .ok (.iload_n 1, 1) := by decide +kernel
theorem dX7_waits_31 : decode cX7_waits 31 = .ok (.invokevirtual 207, 3) := by decide +kernel
theorem dX7_waits_34 : decode cX7_waits 34 = .ok (.aload_n 0, 1) := by decide +kernel
theorem dX7_waits_35 : decode cX7_waits 35 = .ok (.getfield 10, 3) := by decide +kernel
theorem dX7_waits_38 : decode cX7_waits 38 = .ok (.getfield 201, 3) := by decide +kernel
theorem dX7_waits_41 : decode cX7_waits 41 = .ok (.ireturn, 1) := by decide +kernel
theorem dX7_clean_0 : decode cX7_clean 0 = .ok (.aload_n 0, 1) := by decide +kernel
theorem dX7_clean_1 : decode cX7_clean 1 = .ok (.getfield 10, 3) := by decide +kernel
theorem dX7_clean_4 : decode cX7_clean 4 = .ok (.invokevirtual 211, 3) := by decide +kernel
theorem dX7_clean_7 : decode cX7_clean 7 = .ok (.istore_n 1, 1) := by decide +kernel
theorem dX7_clean_8 : decode cX7_clean 8 = .ok (.iload_n 1, 1) := by decide +kernel
theorem dX7_clean_9 : decode cX7_clean 9 = .ok (.ifCond .eq 5, 3) := by decide +kernel
theorem dX7_clean_12 : decode cX7_clean 12 = .ok (.iload_n 1, 1) := by decide +kernel
theorem dX7_clean_13 : decode cX7_clean 13 = .ok (.ireturn, 1) := by decide +kernel
theorem dX7_clean_14 : decode cX7_clean 14 = .ok (.aload_n 0, 1) := by decide +kernel
theorem dX7_clean_15 : decode cX7_clean 15 = .ok (.getfield 22, 3) := by decide +kernel
theorem dX7_clean_18 : decode cX7_clean 18 = .ok (.aload_n 0, 1) := by decide +kernel
theorem dX7_clean_19 : decode cX7_clean 19 = .ok (.getfield 10, 3) := by decide +kernel
theorem dX7_clean_22 : decode cX7_clean 22 = .ok (.invokevirtual 59, 3) := by decide +kernel
theorem dX7_clean_25 : decode cX7_clean 25 = .ok (.aload_n 0, 1) := by decide +kernel
theorem dX7_clean_26 : decode cX7_clean 26 = .ok (.getfield 10, 3) := by decide +kernel
theorem dX7_clean_29 : decode cX7_clean 29 = .ok (.invokevirtual 214, 3) := by decide +kernel
theorem dX7_clean_32 : decode cX7_clean 32 = .ok (.ireturn, 1) := by decide +kernel
theorem dX7_whyNot_0 : decode cX7_whyNot 0 = .ok (.aload_n 0, 1) := by decide +kernel
theorem dX7_whyNot_1 : decode cX7_whyNot 1 = .ok (.getfield 10, 3) := by decide +kernel
theorem dX7_whyNot_4 : decode cX7_whyNot 4 = .ok (.getfield 93, 3) := by decide +kernel
theorem dX7_whyNot_7 : decode cX7_whyNot 7 = .ok (.iload_n 1, 1) := by decide +kernel
theorem dX7_whyNot_8 : decode cX7_whyNot 8 = .ok (.invokevirtual 148, 3) := by decide +kernel
theorem dX7_whyNot_11 : decode cX7_whyNot 11 = .ok (.ifCond .eq 12, 3) := by decide +kernel
theorem dX7_whyNot_14 : decode cX7_whyNot 14 = .ok (.iload_n 2, 1) := by decide +kernel
theorem dX7_whyNot_15 : decode cX7_whyNot 15 = .ok (.iconst 0, 1) := by decide +kernel
theorem dX7_whyNot_16 : decode cX7_whyNot 16 = .ok (.iconst 1, 1) := by decide +kernel
theorem dX7_whyNot_17 : decode cX7_whyNot 17 = .ok (.invokestatic 47, 3) := by decide +kernel
theorem dX7_whyNot_20 : decode cX7_whyNot 20 = .ok (.ifCond .ne 6, 3) := by decide +kernel
theorem dX7_whyNot_23 : decode cX7_whyNot 23 = .ok (.ldc 58, 2) := by decide +kernel
theorem dX7_whyNot_25 : decode cX7_whyNot 25 = .ok (.ireturn, 1) := by decide +kernel
theorem dX7_whyNot_26 : decode cX7_whyNot 26 = .ok (.aload_n 0, 1) := by decide +kernel
theorem dX7_whyNot_27 : decode cX7_whyNot 27 = .ok (.getfield 10, 3) := by decide +kernel
theorem dX7_whyNot_30 : decode cX7_whyNot 30 = .ok (.iload_n 1, 1) := by decide +kernel
theorem dX7_whyNot_31 : decode cX7_whyNot 31 = .ok (.iload_n 2, 1) := by decide +kernel
theorem dX7_whyNot_32 : decode cX7_whyNot 32 = .ok (.iconst 0, 1) := by decide +kernel
theorem dX7_whyNot_33 : decode cX7_whyNot 33 = .ok (.invokevirtual 194, 3) := by decide +kernel
theorem dX7_whyNot_36 : decode cX7_whyNot 36 = .ok (.ireturn, 1) := by decide +kernel
theorem dX7_strikers_0 : decode cX7_strikers 0 = .ok (.iconst 0, 1) := by decide +kernel
theorem dX7_strikers_1 : decode cX7_strikers 1 = .ok (.istore_n 1, 1) := by decide +kernel
theorem dX7_strikers_2 : decode cX7_strikers 2 = .ok (.iconst 0, 1) := by decide +kernel
theorem dX7_strikers_3 : decode cX7_strikers 3 = .ok (.istore_n 2, 1) := by decide +kernel
theorem dX7_strikers_4 : decode cX7_strikers 4 = .ok (.iload_n 2, 1) := by decide +kernel
theorem dX7_strikers_5 : decode cX7_strikers 5 = .ok (.aload_n 0, 1) := by decide +kernel
theorem dX7_strikers_6 : decode cX7_strikers 6 = .ok (.getfield 10, 3) := by decide +kernel
theorem dX7_strikers_9 : decode cX7_strikers 9 = .ok (.getfield 70, 3) := by decide +kernel
theorem dX7_strikers_12 : decode cX7_strikers 12 = .ok (.getfield 81, 3) := by decide +kernel
theorem dX7_strikers_15 : decode cX7_strikers 15 = .ok (.if_icmp .ge 26, 3) := by decide +kernel
theorem dX7_strikers_18 : decode cX7_strikers 18 = .ok (.aload_n 0, 1) := by decide +kernel
theorem dX7_strikers_19 : decode cX7_strikers 19 = .ok (.getfield 10, 3) := by decide +kernel
theorem dX7_strikers_22 : decode cX7_strikers 22 = .ok (.iload_n 2, 1) := by decide +kernel
theorem dX7_strikers_23 : decode cX7_strikers 23 = .ok (.invokevirtual 138, 3) := by decide +kernel
theorem dX7_strikers_26 : decode cX7_strikers 26 = .ok (.ifCond .eq 9, 3) := by decide +kernel
theorem dX7_strikers_29 : decode cX7_strikers 29 = .ok (.iload_n 1, 1) := by decide +kernel
theorem dX7_strikers_30 : decode cX7_strikers 30 = .ok (.iconst 1, 1) := by decide +kernel
theorem dX7_strikers_31 : decode cX7_strikers 31 = .ok (.iload_n 2, 1) := by decide +kernel
theorem dX7_strikers_32 : decode cX7_strikers 32 = .ok (.ishl, 1) := by decide +kernel
theorem dX7_strikers_33 : decode cX7_strikers 33 = .ok (.ior, 1) := by decide +kernel
theorem dX7_strikers_34 : decode cX7_strikers 34 = .ok (.istore_n 1, 1) := by decide +kernel
theorem dX7_strikers_35 : decode cX7_strikers 35 = .ok (.iinc 2 1, 3) := by decide +kernel
theorem dX7_strikers_38 : decode cX7_strikers 38 = .ok (.goto (-34), 3) := by decide +kernel
theorem dX7_strikers_41 : decode cX7_strikers 41 = .ok (.iload_n 1, 1) := by decide +kernel
theorem dX7_strikers_42 : decode cX7_strikers 42 = .ok (.ireturn, 1) := by decide +kernel
theorem dX7_room_0 : decode cX7_room 0 = .ok (.aload_n 0, 1) := by decide +kernel
theorem dX7_room_1 : decode cX7_room 1 = .ok (.getfield 10, 3) := by decide +kernel
theorem dX7_room_4 : decode cX7_room 4 = .ok (.getfield 70, 3) := by decide +kernel
theorem dX7_room_7 : decode cX7_room 7 = .ok (.iload_n 1, 1) := by decide +kernel
theorem dX7_room_8 : decode cX7_room 8 = .ok (.invokevirtual 103, 3) := by decide +kernel
theorem dX7_room_11 : decode cX7_room 11 = .ok (.ifCond .ne 6, 3) := by decide +kernel
theorem dX7_room_14 : decode cX7_room 14 = .ok (.ldc 58, 2) := by decide +kernel
theorem dX7_room_16 : decode cX7_room 16 = .ok (.ireturn, 1) := by decide +kernel
theorem dX7_room_17 : decode cX7_room 17 = .ok (.aload_n 0, 1) := by decide +kernel
theorem dX7_room_18 : decode cX7_room 18 = .ok (.getfield 10, 3) := by decide +kernel
theorem dX7_room_21 : decode cX7_room 21 = .ok (.getfield 70, 3) := by decide +kernel
theorem dX7_room_24 : decode cX7_room 24 = .ok (.iload_n 1, 1) := by decide +kernel
theorem dX7_room_25 : decode cX7_room 25 = .ok (.invokevirtual 229, 3) := by decide +kernel
theorem dX7_room_28 : decode cX7_room 28 = .ok (.ifCond .eq 6, 3) := by decide +kernel
theorem dX7_room_31 : decode cX7_room 31 = .ok (.ldc 80, 2) := by decide +kernel
theorem dX7_room_33 : decode cX7_room 33 = .ok (.ireturn, 1) := by decide +kernel
theorem dX7_room_34 : decode cX7_room 34 = .ok (.aload_n 0, 1) := by decide +kernel
theorem dX7_room_35 : decode cX7_room 35 = .ok (.getfield 10, 3) := by decide +kernel
theorem dX7_room_38 : decode cX7_room 38 = .ok (.getfield 70, 3) := by decide +kernel
theorem dX7_room_41 : decode cX7_room 41 = .ok (.iload_n 1, 1) := by decide +kernel
theorem dX7_room_42 : decode cX7_room 42 = .ok (.invokevirtual 232, 3) := by decide +kernel
theorem dX7_room_45 : decode cX7_room 45 = .ok (.istore_n 2, 1) := by decide +kernel
theorem dX7_room_46 : decode cX7_room 46 = .ok (.iload_n 2, 1) := by decide +kernel
theorem dX7_room_47 : decode cX7_room 47 = .ok (.iconst (-1), 1) := by decide +kernel
theorem dX7_room_48 : decode cX7_room 48 = .ok (.if_icmp .ne 6, 3) := by decide +kernel
theorem dX7_room_51 : decode cX7_room 51 = .ok (.ldc 152, 2) := by decide +kernel
theorem dX7_room_53 : decode cX7_room 53 = .ok (.ireturn, 1) := by decide +kernel
theorem dX7_room_54 : decode cX7_room 54 = .ok (.iload_n 2, 1) := by decide +kernel
theorem dX7_room_55 : decode cX7_room 55 = .ok (.aload_n 0, 1) := by decide +kernel
theorem dX7_room_56 : decode cX7_room 56 = .ok (.getfield 10, 3) := by decide +kernel
theorem dX7_room_59 : decode cX7_room 59 = .ok (.getfield 63, 3) := by decide +kernel
theorem dX7_room_62 : decode cX7_room 62 = .ok (.iconst 0, 1) := by decide +kernel
theorem dX7_room_63 : decode cX7_room 63 = .ok (.iaload, 1) := by decide +kernel
theorem dX7_room_64 : decode cX7_room 64 = .ok (.iadd, 1) := by decide +kernel
theorem dX7_room_65 : decode cX7_room 65 = .ok (.aload_n 0, 1) := by decide +kernel
theorem dX7_room_66 : decode cX7_room 66 = .ok (.getfield 10, 3) := by decide +kernel
theorem dX7_room_69 : decode cX7_room 69 = .ok (.getfield 70, 3) := by decide +kernel
theorem dX7_room_72 : decode cX7_room 72 = .ok (.getfield 125, 3) := by decide +kernel
theorem dX7_room_75 : decode cX7_room 75 = .ok (.iload_n 1, 1) := by decide +kernel
theorem dX7_room_76 : decode cX7_room 76 = .ok (.iaload, 1) := by decide +kernel
theorem dX7_room_77 : decode cX7_room 77 = .ok (.isub, 1) := by decide +kernel
theorem dX7_room_78 : decode cX7_room 78 = .ok (.ireturn, 1) := by decide +kernel
theorem dX7_spread_0 : decode cX7_spread 0 = .ok (.aload_n 0, 1) := by decide +kernel
theorem dX7_spread_1 : decode cX7_spread 1 = .ok (.getfield 10, 3) := by decide +kernel
theorem dX7_spread_4 : decode cX7_spread 4 = .ok (.getfield 70, 3) := by decide +kernel
theorem dX7_spread_7 : decode cX7_spread 7 = .ok (.aload_n 0, 1) := by decide +kernel
theorem dX7_spread_8 : decode cX7_spread 8 = .ok (.getfield 10, 3) := by decide +kernel
theorem dX7_spread_11 : decode cX7_spread 11 = .ok (.getfield 70, 3) := by decide +kernel
theorem dX7_spread_14 : decode cX7_spread 14 = .ok (.getfield 125, 3) := by decide +kernel
theorem dX7_spread_17 : decode cX7_spread 17 = .ok (.invokevirtual 235, 3) := by decide +kernel
theorem dX7_spread_20 : decode cX7_spread 20 = .ok (.ireturn, 1) := by decide +kernel
theorem dX7_touch_0 : decode cX7_touch 0 = .ok (.aload_n 0, 1) := by decide +kernel
theorem dX7_touch_1 : decode cX7_touch 1 = .ok (.getfield 10, 3) := by decide +kernel
theorem dX7_touch_4 : decode cX7_touch 4 = .ok (.getfield 93, 3) := by decide +kernel
theorem dX7_touch_7 : decode cX7_touch 7 = .ok (.iload_n 1, 1) := by decide +kernel
theorem dX7_touch_8 : decode cX7_touch 8 = .ok (.invokevirtual 148, 3) := by decide +kernel
theorem dX7_touch_11 : decode cX7_touch 11 = .ok (.ifCond .eq 17, 3) := by decide +kernel
theorem dX7_touch_14 : decode cX7_touch 14 = .ok (.aload_n 0, 1) := by decide +kernel
theorem dX7_touch_15 : decode cX7_touch 15 = .ok (.getfield 10, 3) := by decide +kernel
theorem dX7_touch_18 : decode cX7_touch 18 = .ok (.getfield 93, 3) := by decide +kernel
theorem dX7_touch_21 : decode cX7_touch 21 = .ok (.iload_n 2, 1) := by decide +kernel
theorem dX7_touch_22 : decode cX7_touch 22 = .ok (.invokevirtual 148, 3) := by decide +kernel
theorem dX7_touch_25 : decode cX7_touch 25 = .ok (.ifCond .ne 6, 3) := by decide +kernel
theorem dX7_touch_28 : decode cX7_touch 28 = .ok (.ldc 58, 2) := by decide +kernel
theorem dX7_touch_30 : decode cX7_touch 30 = .ok (.ireturn, 1) := by decide +kernel
theorem dX7_touch_31 : decode cX7_touch 31 = .ok (.iload_n 1, 1) := by decide +kernel
theorem dX7_touch_32 : decode cX7_touch 32 = .ok (.iload_n 2, 1) := by decide +kernel
theorem dX7_touch_33 : decode cX7_touch 33 = .ok (.if_icmp .eq 18, 3) := by decide +kernel
theorem dX7_touch_36 : decode cX7_touch 36 = .ok (.aload_n 0, 1) := by decide +kernel
theorem dX7_touch_37 : decode cX7_touch 37 = .ok (.getfield 10, 3) := by decide +kernel
theorem dX7_touch_40 : decode cX7_touch 40 = .ok (.getfield 93, 3) := by decide +kernel
theorem dX7_touch_43 : decode cX7_touch 43 = .ok (.iload_n 1, 1) := by decide +kernel
theorem dX7_touch_44 : decode cX7_touch 44 = .ok (.iload_n 2, 1) := by decide +kernel
theorem dX7_touch_45 : decode cX7_touch 45 = .ok (.invokevirtual 239, 3) := by decide +kernel
theorem dX7_touch_48 : decode cX7_touch 48 = .ok (.ifCond .eq 7, 3) := by decide +kernel
theorem dX7_touch_51 : decode cX7_touch 51 = .ok (.iconst 1, 1) := by decide +kernel
theorem dX7_touch_52 : decode cX7_touch 52 = .ok (.goto 4, 3) := by decide +kernel
theorem dX7_touch_55 : decode cX7_touch 55 = .ok (.iconst 0, 1) := by decide +kernel
theorem dX7_touch_56 : decode cX7_touch 56 = .ok (.invokestatic 134, 3) := by decide +kernel
theorem dX7_touch_59 : decode cX7_touch 59 = .ok (.ireturn, 1) := by decide +kernel
theorem dX7_touching_0 : decode cX7_touching 0 = .ok (.aload_n 0, 1) := by decide +kernel
theorem dX7_touching_1 : decode cX7_touching 1 = .ok (.getfield 10, 3) := by decide +kernel
theorem dX7_touching_4 : decode cX7_touching 4 = .ok (.getfield 93, 3) := by decide +kernel
theorem dX7_touching_7 : decode cX7_touching 7 = .ok (.iload_n 1, 1) := by decide +kernel
theorem dX7_touching_8 : decode cX7_touching 8 = .ok (.invokevirtual 148, 3) := by decide +kernel
theorem dX7_touching_11 : decode cX7_touching 11 = .ok (.ifCond .ne 6, 3) := by decide +kernel
theorem dX7_touching_14 : decode cX7_touching 14 = .ok (.ldc 58, 2) := by decide +kernel
theorem dX7_touching_16 : decode cX7_touching 16 = .ok (.ireturn, 1) := by decide +kernel
theorem dX7_touching_17 : decode cX7_touching 17 = .ok (.aload_n 0, 1) := by decide +kernel
theorem dX7_touching_18 : decode cX7_touching 18 = .ok (.getfield 10, 3) := by decide +kernel
theorem dX7_touching_21 : decode cX7_touching 21 = .ok (.getfield 93, 3) := by decide +kernel
theorem dX7_touching_24 : decode cX7_touching 24 = .ok (.getfield 242, 3) := by decide +kernel
theorem dX7_touching_27 : decode cX7_touching 27 = .ok (.iload_n 1, 1) := by decide +kernel
theorem dX7_touching_28 : decode cX7_touching 28 = .ok (.iaload, 1) := by decide +kernel
theorem dX7_touching_29 : decode cX7_touching 29 = .ok (.ireturn, 1) := by decide +kernel
theorem dX7_seams_0 : decode cX7_seams 0 = .ok (.iconst 0, 1) := by decide +kernel
theorem dX7_seams_1 : decode cX7_seams 1 = .ok (.istore_n 1, 1) := by decide +kernel
theorem dX7_seams_2 : decode cX7_seams 2 = .ok (.iconst 0, 1) := by decide +kernel
theorem dX7_seams_3 : decode cX7_seams 3 = .ok (.istore_n 2, 1) := by decide +kernel
theorem dX7_seams_4 : decode cX7_seams 4 = .ok (.iload_n 2, 1) := by decide +kernel
theorem dX7_seams_5 : decode cX7_seams 5 = .ok (.aload_n 0, 1) := by decide +kernel
theorem dX7_seams_6 : decode cX7_seams 6 = .ok (.getfield 10, 3) := by decide +kernel
theorem dX7_seams_9 : decode cX7_seams 9 = .ok (.getfield 93, 3) := by decide +kernel
theorem dX7_seams_12 : decode cX7_seams 12 = .ok (.getfield 97, 3) := by decide +kernel
theorem dX7_seams_15 : decode cX7_seams 15 = .ok (.if_icmp .ge 23, 3) := by decide +kernel
theorem dX7_seams_18 : decode cX7_seams 18 = .ok (.iload_n 1, 1) := by decide +kernel
theorem dX7_seams_19 : decode cX7_seams 19 = .ok (.aload_n 0, 1) := by decide +kernel
theorem dX7_seams_20 : decode cX7_seams 20 = .ok (.getfield 10, 3) := by decide +kernel
theorem dX7_seams_23 : decode cX7_seams 23 = .ok (.getfield 93, 3) := by decide +kernel
theorem dX7_seams_26 : decode cX7_seams 26 = .ok (.iload_n 2, 1) := by decide +kernel
theorem dX7_seams_27 : decode cX7_seams 27 = .ok (.invokevirtual 245, 3) := by decide +kernel
theorem dX7_seams_30 : decode cX7_seams 30 = .ok (.iadd, 1) := by decide +kernel
theorem dX7_seams_31 : decode cX7_seams 31 = .ok (.istore_n 1, 1) := by decide +kernel
theorem dX7_seams_32 : decode cX7_seams 32 = .ok (.iinc 2 1, 3) := by decide +kernel
theorem dX7_seams_35 : decode cX7_seams 35 = .ok (.goto (-31), 3) := by decide +kernel
theorem dX7_seams_38 : decode cX7_seams 38 = .ok (.iload_n 1, 1) := by decide +kernel
theorem dX7_seams_39 : decode cX7_seams 39 = .ok (.ireturn, 1) := by decide +kernel
theorem dX7_meanShade_0 : decode cX7_meanShade 0 = .ok (.dconst 0, 1) := by decide +kernel
theorem dX7_meanShade_1 : decode cX7_meanShade 1 = .ok (.dstore_n 1, 1) := by decide +kernel
theorem dX7_meanShade_2 : decode cX7_meanShade 2 = .ok (.iconst 0, 1) := by decide +kernel
theorem dX7_meanShade_3 : decode cX7_meanShade 3 = .ok (.istore_n 3, 1) := by decide +kernel
theorem dX7_meanShade_4 : decode cX7_meanShade 4 = .ok (.iconst 0, 1) := by decide +kernel
theorem dX7_meanShade_5 : decode cX7_meanShade 5 = .ok (.istore 4, 2) := by decide +kernel
theorem dX7_meanShade_7 : decode cX7_meanShade 7 = .ok (.iload 4, 2) := by decide +kernel
theorem dX7_meanShade_9 : decode cX7_meanShade 9 = .ok (.aload_n 0, 1) := by decide +kernel
theorem dX7_meanShade_10 : decode cX7_meanShade 10 = .ok (.getfield 10, 3) := by decide +kernel
theorem dX7_meanShade_13 : decode cX7_meanShade 13 = .ok (.getfield 93, 3) := by decide +kernel
theorem dX7_meanShade_16 : decode cX7_meanShade 16 = .ok (.getfield 97, 3) := by decide +kernel
theorem dX7_meanShade_19 : decode cX7_meanShade 19 = .ok (.if_icmp .ge 40, 3) := by decide +kernel
theorem dX7_meanShade_22 : decode cX7_meanShade 22 = .ok (.aload_n 0, 1) := by decide +kernel
theorem dX7_meanShade_23 : decode cX7_meanShade 23 = .ok (.getfield 10, 3) := by decide +kernel
theorem dX7_meanShade_26 : decode cX7_meanShade 26 = .ok (.getfield 93, 3) := by decide +kernel
theorem dX7_meanShade_29 : decode cX7_meanShade 29 = .ok (.iload 4, 2) := by decide +kernel
theorem dX7_meanShade_31 : decode cX7_meanShade 31 = .ok (.invokevirtual 149, 3) := by decide +kernel
theorem dX7_meanShade_34 : decode cX7_meanShade 34 = .ok (.ifCond .eq 19, 3) := by decide +kernel
theorem dX7_meanShade_37 : decode cX7_meanShade 37 = .ok (.dload_n 1, 1) := by decide +kernel
theorem dX7_meanShade_38 : decode cX7_meanShade 38 = .ok (.aload_n 0, 1) := by decide +kernel
theorem dX7_meanShade_39 : decode cX7_meanShade 39 = .ok (.getfield 10, 3) := by decide +kernel
theorem dX7_meanShade_42 : decode cX7_meanShade 42 = .ok (.iload 4, 2) := by decide +kernel
theorem dX7_meanShade_44 : decode cX7_meanShade 44 = .ok (.invokevirtual 177, 3) := by decide +kernel
theorem dX7_meanShade_47 : decode cX7_meanShade 47 = .ok (.f2d, 1) := by decide +kernel
theorem dX7_meanShade_48 : decode cX7_meanShade 48 = .ok (.dadd, 1) := by decide +kernel
theorem dX7_meanShade_49 : decode cX7_meanShade 49 = .ok (.dstore_n 1, 1) := by decide +kernel
theorem dX7_meanShade_50 : decode cX7_meanShade 50 = .ok (.iinc 3 1, 3) := by decide +kernel
theorem dX7_meanShade_53 : decode cX7_meanShade 53 = .ok (.iinc 4 1, 3) := by decide +kernel
theorem dX7_meanShade_56 : decode cX7_meanShade 56 = .ok (.goto (-49), 3) := by decide +kernel
theorem dX7_meanShade_59 : decode cX7_meanShade 59 = .ok (.iload_n 3, 1) := by decide +kernel
theorem dX7_meanShade_60 : decode cX7_meanShade 60 = .ok (.ifCond .ne 6, 3) := by decide +kernel
theorem dX7_meanShade_63 : decode cX7_meanShade 63 = .ok (.ldc 152, 2) := by decide +kernel
theorem dX7_meanShade_65 : decode cX7_meanShade 65 = .ok (.ireturn, 1) := by decide +kernel
theorem dX7_meanShade_66 : decode cX7_meanShade 66 = .ok (.dload_n 1, 1) := by decide +kernel
theorem dX7_meanShade_67 : decode cX7_meanShade 67 = .ok (.iload_n 3, 1) := by decide +kernel
theorem dX7_meanShade_68 : decode cX7_meanShade 68 = .ok (.i2d, 1) := by decide +kernel
theorem dX7_meanShade_69 : decode cX7_meanShade 69 = .ok (.ddiv, 1) := by decide +kernel
theorem dX7_meanShade_70 : decode cX7_meanShade 70 = .ok (.d2f, 1) := by decide +kernel
theorem dX7_meanShade_71 : decode cX7_meanShade 71 = .ok (.invokestatic 181, 3) := by decide +kernel
theorem dX7_meanShade_74 : decode cX7_meanShade 74 = .ok (.ireturn, 1) := by decide +kernel
theorem dX7_count_0 : decode cX7_count 0 = .ok (.iload_n 1, 1) := by decide +kernel
theorem dX7_count_1 : decode cX7_count 1 = .ok (.tableswitch 199 0 12 #[67, 78, 89, 100, 108, 116, 140, 148, 156, 167, 175, 183, 191], 67) := by decide +kernel
theorem dX7_count_68 : decode cX7_count 68 = .ok (.aload_n 0, 1) := by decide +kernel
theorem dX7_count_69 : decode cX7_count 69 = .ok (.getfield 10, 3) := by decide +kernel
theorem dX7_count_72 : decode cX7_count 72 = .ok (.getfield 70, 3) := by decide +kernel
theorem dX7_count_75 : decode cX7_count 75 = .ok (.getfield 81, 3) := by decide +kernel
theorem dX7_count_78 : decode cX7_count 78 = .ok (.ireturn, 1) := by decide +kernel
theorem dX7_count_79 : decode cX7_count 79 = .ok (.aload_n 0, 1) := by decide +kernel
theorem dX7_count_80 : decode cX7_count 80 = .ok (.getfield 10, 3) := by decide +kernel
theorem dX7_count_83 : decode cX7_count 83 = .ok (.getfield 93, 3) := by decide +kernel
theorem dX7_count_86 : decode cX7_count 86 = .ok (.getfield 97, 3) := by decide +kernel
theorem dX7_count_89 : decode cX7_count 89 = .ok (.ireturn, 1) := by decide +kernel
theorem dX7_count_90 : decode cX7_count 90 = .ok (.aload_n 0, 1) := by decide +kernel
theorem dX7_count_91 : decode cX7_count 91 = .ok (.getfield 10, 3) := by decide +kernel
theorem dX7_count_94 : decode cX7_count 94 = .ok (.getfield 93, 3) := by decide +kernel
theorem dX7_count_97 : decode cX7_count 97 = .ok (.invokevirtual 274, 3) := by decide +kernel
theorem dX7_count_100 : decode cX7_count 100 = .ok (.ireturn, 1) := by decide +kernel
theorem dX7_count_101 : decode cX7_count 101 = .ok (.aload_n 0, 1) := by decide +kernel
theorem dX7_count_102 : decode cX7_count 102 = .ok (.getfield 10, 3) := by decide +kernel
theorem dX7_count_105 : decode cX7_count 105 = .ok (.invokevirtual 277, 3) := by decide +kernel
theorem dX7_count_108 : decode cX7_count 108 = .ok (.ireturn, 1) := by decide +kernel
theorem dX7_count_109 : decode cX7_count 109 = .ok (.aload_n 0, 1) := by decide +kernel
theorem dX7_count_110 : decode cX7_count 110 = .ok (.getfield 10, 3) := by decide +kernel
theorem dX7_count_113 : decode cX7_count 113 = .ok (.getfield 201, 3) := by decide +kernel
theorem dX7_count_116 : decode cX7_count 116 = .ok (.ireturn, 1) := by decide +kernel
theorem dX7_count_117 : decode cX7_count 117 = .ok (.aload_n 0, 1) := by decide +kernel
theorem dX7_count_118 : decode cX7_count 118 = .ok (.getfield 10, 3) := by decide +kernel
theorem dX7_count_121 : decode cX7_count 121 = .ok (.getfield 109, 3) := by decide +kernel
theorem dX7_count_124 : decode cX7_count 124 = .ok (.iconst (-1), 1) := by decide +kernel
theorem dX7_count_125 : decode cX7_count 125 = .ok (.if_icmp .ne 8, 3) := by decide +kernel
theorem dX7_count_128 : decode cX7_count 128 = .ok (.ldc 152, 2) := by decide +kernel
theorem dX7_count_130 : decode cX7_count 130 = .ok (.goto 10, 3) := by decide +kernel
theorem dX7_count_133 : decode cX7_count 133 = .ok (.aload_n 0, 1) := by decide +kernel
theorem dX7_count_134 : decode cX7_count 134 = .ok (.getfield 10, 3) := by decide +kernel
theorem dX7_count_137 : decode cX7_count 137 = .ok (.getfield 109, 3) := by decide +kernel
theorem dX7_count_140 : decode cX7_count 140 = .ok (.ireturn, 1) := by decide +kernel
theorem dX7_count_141 : decode cX7_count 141 = .ok (.aload_n 0, 1) := by decide +kernel
theorem dX7_count_142 : decode cX7_count 142 = .ok (.getfield 10, 3) := by decide +kernel
theorem dX7_count_145 : decode cX7_count 145 = .ok (.getfield 280, 3) := by decide +kernel
theorem dX7_count_148 : decode cX7_count 148 = .ok (.ireturn, 1) := by decide +kernel
theorem dX7_count_149 : decode cX7_count 149 = .ok (.aload_n 0, 1) := by decide +kernel
theorem dX7_count_150 : decode cX7_count 150 = .ok (.getfield 10, 3) := by decide +kernel
theorem dX7_count_153 : decode cX7_count 153 = .ok (.getfield 282, 3) := by decide +kernel
theorem dX7_count_156 : decode cX7_count 156 = .ok (.ireturn, 1) := by decide +kernel
theorem dX7_count_157 : decode cX7_count 157 = .ok (.aload_n 0, 1) := by decide +kernel
theorem dX7_count_158 : decode cX7_count 158 = .ok (.getfield 10, 3) := by decide +kernel
theorem dX7_count_161 : decode cX7_count 161 = .ok (.getfield 93, 3) := by decide +kernel
theorem dX7_count_164 : decode cX7_count 164 = .ok (.invokevirtual 284, 3) := by decide +kernel
theorem dX7_count_167 : decode cX7_count 167 = .ok (.ireturn, 1) := by decide +kernel
theorem dX7_count_168 : decode cX7_count 168 = .ok (.aload_n 0, 1) := by decide +kernel
theorem dX7_count_169 : decode cX7_count 169 = .ok (.getfield 10, 3) := by decide +kernel
theorem dX7_count_172 : decode cX7_count 172 = .ok (.getfield 287, 3) := by decide +kernel
theorem dX7_count_175 : decode cX7_count 175 = .ok (.ireturn, 1) := by decide +kernel
theorem dX7_count_176 : decode cX7_count 176 = .ok (.aload_n 0, 1) := by decide +kernel
theorem dX7_count_177 : decode cX7_count 177 = .ok (.getfield 10, 3) := by decide +kernel
theorem dX7_count_180 : decode cX7_count 180 = .ok (.getfield 290, 3) := by decide +kernel
theorem dX7_count_183 : decode cX7_count 183 = .ok (.ireturn, 1) := by decide +kernel
theorem dX7_count_184 : decode cX7_count 184 = .ok (.aload_n 0, 1) := by decide +kernel
theorem dX7_count_185 : decode cX7_count 185 = .ok (.getfield 22, 3) := by decide +kernel
theorem dX7_count_188 : decode cX7_count 188 = .ok (.getfield 293, 3) := by decide +kernel
theorem dX7_count_191 : decode cX7_count 191 = .ok (.ireturn, 1) := by decide +kernel
theorem dX7_count_192 : decode cX7_count 192 = .ok (.aload_n 0, 1) := by decide +kernel
theorem dX7_count_193 : decode cX7_count 193 = .ok (.getfield 29, 3) := by decide +kernel
theorem dX7_count_196 : decode cX7_count 196 = .ok (.getfield 294, 3) := by decide +kernel
theorem dX7_count_199 : decode cX7_count 199 = .ok (.ireturn, 1) := by decide +kernel
theorem dX7_count_200 : decode cX7_count 200 = .ok (.iload_n 1, 1) := by decide +kernel
theorem dX7_count_201 : decode cX7_count 201 = .ok (.bipush 20, 2) := by decide +kernel
theorem dX7_count_203 : decode cX7_count 203 = .ok (.bipush 24, 2) := by decide +kernel
theorem dX7_count_205 : decode cX7_count 205 = .ok (.invokestatic 47, 3) := by decide +kernel
theorem dX7_count_208 : decode cX7_count 208 = .ok (.ifCond .eq 18, 3) := by decide +kernel
theorem dX7_count_211 : decode cX7_count 211 = .ok (.aload_n 0, 1) := by decide +kernel
theorem dX7_count_212 : decode cX7_count 212 = .ok (.getfield 10, 3) := by decide +kernel
theorem dX7_count_215 : decode cX7_count 215 = .ok (.getfield 63, 3) := by decide +kernel
theorem dX7_count_218 : decode cX7_count 218 = .ok (.iload_n 1, 1) := by decide +kernel
theorem dX7_count_219 : decode cX7_count 219 = .ok (.bipush 20, 2) := by decide +kernel
theorem dX7_count_221 : decode cX7_count 221 = .ok (.isub, 1) := by decide +kernel
theorem dX7_count_222 : decode cX7_count 222 = .ok (.iaload, 1) := by decide +kernel
theorem dX7_count_223 : decode cX7_count 223 = .ok (.goto 5, 3) := by decide +kernel
theorem dX7_count_226 : decode cX7_count 226 = .ok (.ldc 58, 2) := by decide +kernel
theorem dX7_count_228 : decode cX7_count 228 = .ok (.ireturn, 1) := by decide +kernel
theorem dX7_undo_0 : decode cX7_undo 0 = .ok (.aload_n 0, 1) := by decide +kernel
theorem dX7_undo_1 : decode cX7_undo 1 = .ok (.getfield 22, 3) := by decide +kernel
