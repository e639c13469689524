theorem dX7_undo_4 : decode cX7_undo 4 = .ok (.getfield 293, 3) := by decide +kernel
theorem dX7_undo_7 : decode cX7_undo 7 = .ok (.ifCond .ne 6, 3) := by decide +kernel
theorem dX7_undo_10 : decode cX7_undo 10 = .ok (.ldc 80, 2) := by decide +kernel
theorem dX7_undo_12 : decode cX7_undo 12 = .ok (.ireturn, 1) := by decide +kernel
theorem dX7_undo_13 : decode cX7_undo 13 = .ok (.aload_n 0, 1) := by decide +kernel
theorem dX7_undo_14 : decode cX7_undo 14 = .ok (.getfield 22, 3) := by decide +kernel
theorem dX7_undo_17 : decode cX7_undo 17 = .ok (.aload_n 0, 1) := by decide +kernel
theorem dX7_undo_18 : decode cX7_undo 18 = .ok (.getfield 10, 3) := by decide +kernel
theorem dX7_undo_21 : decode cX7_undo 21 = .ok (.invokevirtual 296, 3) := by decide +kernel
theorem dX7_undo_24 : decode cX7_undo 24 = .ok (.aload_n 0, 1) := by decide +kernel
theorem dX7_undo_25 : decode cX7_undo 25 = .ok (.getfield 22, 3) := by decide +kernel
theorem dX7_undo_28 : decode cX7_undo 28 = .ok (.getfield 293, 3) := by decide +kernel
theorem dX7_undo_31 : decode cX7_undo 31 = .ok (.ireturn, 1) := by decide +kernel
theorem dX7_isIn_0 : decode cX7_isIn 0 = .ok (.iload_n 0, 1) := by decide +kernel
theorem dX7_isIn_1 : decode cX7_isIn 1 = .ok (.iload_n 1, 1) := by decide +kernel
theorem dX7_isIn_2 : decode cX7_isIn 2 = .ok (.if_icmp .lt 12, 3) := by decide +kernel
theorem dX7_isIn_5 : decode cX7_isIn 5 = .ok (.iload_n 0, 1) := by decide +kernel
theorem dX7_isIn_6 : decode cX7_isIn 6 = .ok (.iload_n 2, 1) := by decide +kernel
theorem dX7_isIn_7 : decode cX7_isIn 7 = .ok (.if_icmp .gt 7, 3) := by decide +kernel
theorem dX7_isIn_10 : decode cX7_isIn 10 = .ok (.iconst 1, 1) := by decide +kernel
theorem dX7_isIn_11 : decode cX7_isIn 11 = .ok (.goto 4, 3) := by decide +kernel
theorem dX7_isIn_14 : decode cX7_isIn 14 = .ok (.iconst 0, 1) := by decide +kernel
theorem dX7_isIn_15 : decode cX7_isIn 15 = .ok (.ireturn, 1) := by decide +kernel
theorem dX7_isPoint_0 : decode cX7_isPoint 0 = .ok (.iload_n 0, 1) := by decide +kernel
theorem dX7_isPoint_1 : decode cX7_isPoint 1 = .ok (.iconst 0, 1) := by decide +kernel
theorem dX7_isPoint_2 : decode cX7_isPoint 2 = .ok (.bipush 99, 2) := by decide +kernel
theorem dX7_isPoint_4 : decode cX7_isPoint 4 = .ok (.invokestatic 47, 3) := by decide +kernel
theorem dX7_isPoint_7 : decode cX7_isPoint 7 = .ok (.ifCond .eq 17, 3) := by decide +kernel
theorem dX7_isPoint_10 : decode cX7_isPoint 10 = .ok (.iload_n 1, 1) := by decide +kernel
theorem dX7_isPoint_11 : decode cX7_isPoint 11 = .ok (.iconst 0, 1) := by decide +kernel
theorem dX7_isPoint_12 : decode cX7_isPoint 12 = .ok (.bipush 99, 2) := by decide +kernel
theorem dX7_isPoint_14 : decode cX7_isPoint 14 = .ok (.invokestatic 47, 3) := by decide +kernel
theorem dX7_isPoint_17 : decode cX7_isPoint 17 = .ok (.ifCond .eq 7, 3) := by decide +kernel
theorem dX7_isPoint_20 : decode cX7_isPoint 20 = .ok (.iconst 1, 1) := by decide +kernel
theorem dX7_isPoint_21 : decode cX7_isPoint 21 = .ok (.goto 4, 3) := by decide +kernel
theorem dX7_isPoint_24 : decode cX7_isPoint 24 = .ok (.iconst 0, 1) := by decide +kernel
theorem dX7_isPoint_25 : decode cX7_isPoint 25 = .ok (.ireturn, 1) := by decide +kernel
theorem dX7_asBit_0 : decode cX7_asBit 0 = .ok (.iload_n 0, 1) := by decide +kernel
theorem dX7_asBit_1 : decode cX7_asBit 1 = .ok (.ifCond .eq 7, 3) := by decide +kernel
theorem dX7_asBit_4 : decode cX7_asBit 4 = .ok (.iconst 1, 1) := by decide +kernel
theorem dX7_asBit_5 : decode cX7_asBit 5 = .ok (.goto 4, 3) := by decide +kernel
theorem dX7_asBit_8 : decode cX7_asBit 8 = .ok (.iconst 0, 1) := by decide +kernel
theorem dX7_asBit_9 : decode cX7_asBit 9 = .ok (.ireturn, 1) := by decide +kernel
theorem dX7_holderTakes_0 : decode cX7_holderTakes 0 = .ok (.iload_n 0, 1) := by decide +kernel
theorem dX7_holderTakes_1 : decode cX7_holderTakes 1 = .ok (.ifCond .ne 13, 3) := by decide +kernel
theorem dX7_holderTakes_4 : decode cX7_holderTakes 4 = .ok (.iload_n 1, 1) := by decide +kernel
theorem dX7_holderTakes_5 : decode cX7_holderTakes 5 = .ok (.ifCond .ne 7, 3) := by decide +kernel
theorem dX7_holderTakes_8 : decode cX7_holderTakes 8 = .ok (.iconst 1, 1) := by decide +kernel
theorem dX7_holderTakes_9 : decode cX7_holderTakes 9 = .ok (.goto 4, 3) := by decide +kernel
theorem dX7_holderTakes_12 : decode cX7_holderTakes 12 = .ok (.iconst 0, 1) := by decide +kernel
theorem dX7_holderTakes_13 : decode cX7_holderTakes 13 = .ok (.ireturn, 1) := by decide +kernel
theorem dX7_holderTakes_14 : decode cX7_holderTakes 14 = .ok (.iload_n 0, 1) := by decide +kernel
theorem dX7_holderTakes_15 : decode cX7_holderTakes 15 = .ok (.iconst 1, 1) := by decide +kernel
theorem dX7_holderTakes_16 : decode cX7_holderTakes 16 = .ok (.if_icmp .ne 8, 3) := by decide +kernel
theorem dX7_holderTakes_19 : decode cX7_holderTakes 19 = .ok (.iload_n 1, 1) := by decide +kernel
theorem dX7_holderTakes_20 : decode cX7_holderTakes 20 = .ok (.iconst 1, 1) := by decide +kernel
theorem dX7_holderTakes_21 : decode cX7_holderTakes 21 = .ok (.if_icmp .ne 7, 3) := by decide +kernel
theorem dX7_holderTakes_24 : decode cX7_holderTakes 24 = .ok (.iconst 1, 1) := by decide +kernel
theorem dX7_holderTakes_25 : decode cX7_holderTakes 25 = .ok (.goto 4, 3) := by decide +kernel
theorem dX7_holderTakes_28 : decode cX7_holderTakes 28 = .ok (.iconst 0, 1) := by decide +kernel
theorem dX7_holderTakes_29 : decode cX7_holderTakes 29 = .ok (.ireturn, 1) := by decide +kernel
theorem dX7_distance_0 : decode cX7_distance 0 = .ok (.iload_n 0, 1) := by decide +kernel
theorem dX7_distance_1 : decode cX7_distance 1 = .ok (.iload_n 2, 1) := by decide +kernel
theorem dX7_distance_2 : decode cX7_distance 2 = .ok (.isub, 1) := by decide +kernel
theorem dX7_distance_3 : decode cX7_distance 3 = .ok (.invokestatic 318, 3) := by decide +kernel
theorem dX7_distance_6 : decode cX7_distance 6 = .ok (.iload_n 1, 1) := by decide +kernel
theorem dX7_distance_7 : decode cX7_distance 7 = .ok (.iload_n 3, 1) := by decide +kernel
theorem dX7_distance_8 : decode cX7_distance 8 = .ok (.isub, 1) := by decide +kernel
theorem dX7_distance_9 : decode cX7_distance 9 = .ok (.invokestatic 318, 3) := by decide +kernel
theorem dX7_distance_12 : decode cX7_distance 12 = .ok (.invokestatic 224, 3) := by decide +kernel
theorem dX7_distance_15 : decode cX7_distance 15 = .ok (.ireturn, 1) := by decide +kernel
theorem dX7_copy_0 : decode cX7_copy 0 = .ok (.aload_n 0, 1) := by decide +kernel
theorem dX7_copy_1 : decode cX7_copy 1 = .ok (.iconst 0, 1) := by decide +kernel
theorem dX7_copy_2 : decode cX7_copy 2 = .ok (.aload_n 1, 1) := by decide +kernel
theorem dX7_copy_3 : decode cX7_copy 3 = .ok (.iconst 0, 1) := by decide +kernel
theorem dX7_copy_4 : decode cX7_copy 4 = .ok (.aload_n 0, 1) := by decide +kernel
theorem dX7_copy_5 : decode cX7_copy 5 = .ok (.arraylength, 1) := by decide +kernel
theorem dX7_copy_6 : decode cX7_copy 6 = .ok (.aload_n 1, 1) := by decide +kernel
theorem dX7_copy_7 : decode cX7_copy 7 = .ok (.arraylength, 1) := by decide +kernel
theorem dX7_copy_8 : decode cX7_copy 8 = .ok (.invokestatic 321, 3) := by decide +kernel
theorem dX7_copy_11 : decode cX7_copy 11 = .ok (.invokestatic 324, 3) := by decide +kernel
theorem dX7_copy_14 : decode cX7_copy 14 = .ok (.return_, 1) := by decide +kernel
theorem dX7_bitsOf_0 : decode cX7_bitsOf 0 = .ok (.fload_n 0, 1) := by decide +kernel
theorem dX7_bitsOf_1 : decode cX7_bitsOf 1 = .ok (.fstore_n 1, 1) := by decide +kernel
theorem dX7_bitsOf_2 : decode cX7_bitsOf 2 = .ok (.bipush 127, 2) := by decide +kernel
theorem dX7_bitsOf_4 : decode cX7_bitsOf 4 = .ok (.istore_n 2, 1) := by decide +kernel
theorem dX7_bitsOf_5 : decode cX7_bitsOf 5 = .ok (.iconst 0, 1) := by decide +kernel
theorem dX7_bitsOf_6 : decode cX7_bitsOf 6 = .ok (.istore_n 3, 1) := by decide +kernel
theorem dX7_bitsOf_7 : decode cX7_bitsOf 7 = .ok (.iload_n 3, 1) := by decide +kernel
theorem dX7_bitsOf_8 : decode cX7_bitsOf 8 = .ok (.bipush 126, 2) := by decide +kernel
theorem dX7_bitsOf_10 : decode cX7_bitsOf 10 = .ok (.if_icmp .ge 22, 3) := by decide +kernel
theorem dX7_bitsOf_13 : decode cX7_bitsOf 13 = .ok (.fload_n 1, 1) := by decide +kernel
theorem dX7_bitsOf_14 : decode cX7_bitsOf 14 = .ok (.fconst 1, 1) := by decide +kernel
theorem dX7_bitsOf_15 : decode cX7_bitsOf 15 = .ok (.fcmp .g, 1) := by decide +kernel
theorem dX7_bitsOf_16 : decode cX7_bitsOf 16 = .ok (.ifCond .ge 16, 3) := by decide +kernel
theorem dX7_bitsOf_19 : decode cX7_bitsOf 19 = .ok (.fload_n 1, 1) := by decide +kernel
theorem dX7_bitsOf_20 : decode cX7_bitsOf 20 = .ok (.fconst 2, 1) := by decide +kernel
theorem dX7_bitsOf_21 : decode cX7_bitsOf 21 = .ok (.fmul, 1) := by decide +kernel
theorem dX7_bitsOf_22 : decode cX7_bitsOf 22 = .ok (.fstore_n 1, 1) := by decide +kernel
theorem dX7_bitsOf_23 : decode cX7_bitsOf 23 = .ok (.iinc 2 (-1), 3) := by decide +kernel
theorem dX7_bitsOf_26 : decode cX7_bitsOf 26 = .ok (.iinc 3 1, 3) := by decide +kernel
theorem dX7_bitsOf_29 : decode cX7_bitsOf 29 = .ok (.goto (-22), 3) := by decide +kernel
theorem dX7_bitsOf_32 : decode cX7_bitsOf 32 = .ok (.iload_n 2, 1) := by decide +kernel
theorem dX7_bitsOf_33 : decode cX7_bitsOf 33 = .ok (.bipush 23, 2) := by decide +kernel
theorem dX7_bitsOf_35 : decode cX7_bitsOf 35 = .ok (.ishl, 1) := by decide +kernel
theorem dX7_bitsOf_36 : decode cX7_bitsOf 36 = .ok (.fload_n 1, 1) := by decide +kernel
theorem dX7_bitsOf_37 : decode cX7_bitsOf 37 = .ok (.fconst 1, 1) := by decide +kernel
theorem dX7_bitsOf_38 : decode cX7_bitsOf 38 = .ok (.fsub, 1) := by decide +kernel
theorem dX7_bitsOf_39 : decode cX7_bitsOf 39 = .ok (.ldc_w 330, 3) := by decide +kernel
theorem dX7_bitsOf_42 : decode cX7_bitsOf 42 = .ok (.fmul, 1) := by decide +kernel
theorem dX7_bitsOf_43 : decode cX7_bitsOf 43 = .ok (.f2i, 1) := by decide +kernel
theorem dX7_bitsOf_44 : decode cX7_bitsOf 44 = .ok (.ior, 1) := by decide +kernel
theorem dX7_bitsOf_45 : decode cX7_bitsOf 45 = .ok (.ireturn, 1) := by decide +kernel
theorem dJ9_abs_0f7a4_0 : decode cJ9_abs_0f7a4 0 = .ok (.iload_n 0, 1) := by decide +kernel
theorem dJ9_abs_0f7a4_1 : decode cJ9_abs_0f7a4 1 = .ok (.ifCond .ge 8, 3) := by decide +kernel
theorem dJ9_abs_0f7a4_4 : decode cJ9_abs_0f7a4 4 = .ok (.iload_n 0, 1) := by decide +kernel
theorem dJ9_abs_0f7a4_5 : decode cJ9_abs_0f7a4 5 = .ok (.ineg, 1) := by decide +kernel
theorem dJ9_abs_0f7a4_6 : decode cJ9_abs_0f7a4 6 = .ok (.goto 4, 3) := by decide +kernel
theorem dJ9_abs_0f7a4_9 : decode cJ9_abs_0f7a4 9 = .ok (.iload_n 0, 1) := by decide +kernel
theorem dJ9_abs_0f7a4_10 : decode cJ9_abs_0f7a4 10 = .ok (.ireturn, 1) := by decide +kernel
theorem dJ9_max_7cf53_0 : decode cJ9_max_7cf53 0 = .ok (.iload_n 0, 1) := by decide +kernel
theorem dJ9_max_7cf53_1 : decode cJ9_max_7cf53 1 = .ok (.iload_n 1, 1) := by decide +kernel
theorem dJ9_max_7cf53_2 : decode cJ9_max_7cf53 2 = .ok (.if_icmp .lt 7, 3) := by decide +kernel
theorem dJ9_max_7cf53_5 : decode cJ9_max_7cf53 5 = .ok (.iload_n 0, 1) := by decide +kernel
theorem dJ9_max_7cf53_6 : decode cJ9_max_7cf53 6 = .ok (.goto 4, 3) := by decide +kernel
theorem dJ9_max_7cf53_9 : decode cJ9_max_7cf53 9 = .ok (.iload_n 1, 1) := by decide +kernel
theorem dJ9_max_7cf53_10 : decode cJ9_max_7cf53 10 = .ok (.ireturn, 1) := by decide +kernel
theorem dJ9_min_7cf53_0 : decode cJ9_min_7cf53 0 = .ok (.iload_n 0, 1) := by decide +kernel
theorem dJ9_min_7cf53_1 : decode cJ9_min_7cf53 1 = .ok (.iload_n 1, 1) := by decide +kernel
theorem dJ9_min_7cf53_2 : decode cJ9_min_7cf53 2 = .ok (.if_icmp .gt 7, 3) := by decide +kernel
theorem dJ9_min_7cf53_5 : decode cJ9_min_7cf53 5 = .ok (.iload_n 0, 1) := by decide +kernel
theorem dJ9_min_7cf53_6 : decode cJ9_min_7cf53 6 = .ok (.goto 4, 3) := by decide +kernel
theorem dJ9_min_7cf53_9 : decode cJ9_min_7cf53 9 = .ok (.iload_n 1, 1) := by decide +kernel
theorem dJ9_min_7cf53_10 : decode cJ9_min_7cf53 10 = .ok (.ireturn, 1) := by decide +kernel
theorem dL_cell_0 : decode cL_cell 0 = .ok (.iload_n 1, 1) := by decide +kernel
theorem dL_cell_1 : decode cL_cell 1 = .ok (.aload_n 0, 1) := by decide +kernel
theorem dL_cell_2 : decode cL_cell 2 = .ok (.arraylength, 1) := by decide +kernel
theorem dL_cell_3 : decode cL_cell 3 = .ok (.if_icmp .ge 9, 3) := by decide +kernel
theorem dL_cell_6 : decode cL_cell 6 = .ok (.aload_n 0, 1) := by decide +kernel
theorem dL_cell_7 : decode cL_cell 7 = .ok (.iload_n 1, 1) := by decide +kernel
theorem dL_cell_8 : decode cL_cell 8 = .ok (.iaload, 1) := by decide +kernel
theorem dL_cell_9 : decode cL_cell 9 = .ok (.goto 10, 3) := by decide +kernel
theorem dL_cell_12 : decode cL_cell 12 = .ok (.ldc 7, 2) := by decide +kernel
theorem dL_cell_14 : decode cL_cell 14 = .ok (.iload_n 1, 1) := by decide +kernel
theorem dL_cell_15 : decode cL_cell 15 = .ok (.bipush 19, 2) := by decide +kernel
theorem dL_cell_17 : decode cL_cell 17 = .ok (.iadd, 1) := by decide +kernel
theorem dL_cell_18 : decode cL_cell 18 = .ok (.imul, 1) := by decide +kernel
theorem dL_cell_19 : decode cL_cell 19 = .ok (.ldc 8, 2) := by decide +kernel
theorem dL_cell_21 : decode cL_cell 21 = .ok (.iand, 1) := by decide +kernel
theorem dL_cell_22 : decode cL_cell 22 = .ok (.ireturn, 1) := by decide +kernel
theorem dL_pens_0 : decode cL_pens 0 = .ok (.iconst (-1), 1) := by decide +kernel
theorem dL_pens_1 : decode cL_pens 1 = .ok (.istore_n 1, 1) := by decide +kernel
theorem dL_pens_2 : decode cL_pens 2 = .ok (.ldc 9, 2) := by decide +kernel
theorem dL_pens_4 : decode cL_pens 4 = .ok (.istore_n 2, 1) := by decide +kernel
theorem dL_pens_5 : decode cL_pens 5 = .ok (.iconst 0, 1) := by decide +kernel
theorem dL_pens_6 : decode cL_pens 6 = .ok (.istore_n 3, 1) := by decide +kernel
theorem dL_pens_7 : decode cL_pens 7 = .ok (.aload_n 0, 1) := by decide +kernel
theorem dL_pens_8 : decode cL_pens 8 = .ok (.iconst 5, 1) := by decide +kernel
theorem dL_pens_9 : decode cL_pens 9 = .ok (.invokevirtual 10, 3) := by decide +kernel
theorem dL_pens_12 : decode cL_pens 12 = .ok (.istore 4, 2) := by decide +kernel
theorem dL_pens_14 : decode cL_pens 14 = .ok (.iconst 1, 1) := by decide +kernel
theorem dL_pens_15 : decode cL_pens 15 = .ok (.istore 5, 2) := by decide +kernel
theorem dL_pens_17 : decode cL_pens 17 = .ok (.iconst 0, 1) := by decide +kernel
theorem dL_pens_18 : decode cL_pens 18 = .ok (.istore 6, 2) := by decide +kernel
theorem dL_pens_20 : decode cL_pens 20 = .ok (.iload 6, 2) := by decide +kernel
theorem dL_pens_22 : decode cL_pens 22 = .ok (.aload_n 0, 1) := by decide +kernel
theorem dL_pens_23 : decode cL_pens 23 = .ok (.iconst 0, 1) := by decide +kernel
theorem dL_pens_24 : decode cL_pens 24 = .ok (.invokevirtual 10, 3) := by decide +kernel
theorem dL_pens_27 : decode cL_pens 27 = .ok (.if_icmp .ge 285, 3) := by decide +kernel
theorem dL_pens_30 : decode cL_pens 30 = .ok (.iload 5, 2) := by decide +kernel
theorem dL_pens_32 : decode cL_pens 32 = .ok (.ifCond .eq 280, 3) := by decide +kernel
theorem dL_pens_35 : decode cL_pens 35 = .ok (.aload_n 0, 1) := by decide +kernel
theorem dL_pens_36 : decode cL_pens 36 = .ok (.iload 6, 2) := by decide +kernel
theorem dL_pens_38 : decode cL_pens 38 = .ok (.iconst 3, 1) := by decide +kernel
theorem dL_pens_39 : decode cL_pens 39 = .ok (.invokevirtual 16, 3) := by decide +kernel
theorem dL_pens_42 : decode cL_pens 42 = .ok (.istore 7, 2) := by decide +kernel
theorem dL_pens_44 : decode cL_pens 44 = .ok (.aload_n 0, 1) := by decide +kernel
theorem dL_pens_45 : decode cL_pens 45 = .ok (.iload 6, 2) := by decide +kernel
theorem dL_pens_47 : decode cL_pens 47 = .ok (.bipush 7, 2) := by decide +kernel
theorem dL_pens_49 : decode cL_pens 49 = .ok (.invokevirtual 16, 3) := by decide +kernel
theorem dL_pens_52 : decode cL_pens 52 = .ok (.ifCond .ne 7, 3) := by decide +kernel
theorem dL_pens_55 : decode cL_pens 55 = .ok (.iconst 1, 1) := by decide +kernel
theorem dL_pens_56 : decode cL_pens 56 = .ok (.goto 4, 3) := by decide +kernel
theorem dL_pens_59 : decode cL_pens 59 = .ok (.iconst 0, 1) := by decide +kernel
theorem dL_pens_60 : decode cL_pens 60 = .ok (.istore 8, 2) := by decide +kernel
theorem dL_pens_62 : decode cL_pens 62 = .ok (.iload 8, 2) := by decide +kernel
theorem dL_pens_64 : decode cL_pens 64 = .ok (.ifCond .eq 14, 3) := by decide +kernel
theorem dL_pens_67 : decode cL_pens 67 = .ok (.iload 7, 2) := by decide +kernel
theorem dL_pens_69 : decode cL_pens 69 = .ok (.iload_n 1, 1) := by decide +kernel
theorem dL_pens_70 : decode cL_pens 70 = .ok (.if_icmp .le 8, 3) := by decide +kernel
theorem dL_pens_73 : decode cL_pens 73 = .ok (.iload 7, 2) := by decide +kernel
theorem dL_pens_75 : decode cL_pens 75 = .ok (.goto 4, 3) := by decide +kernel
theorem dL_pens_78 : decode cL_pens 78 = .ok (.iload_n 1, 1) := by decide +kernel
theorem dL_pens_79 : decode cL_pens 79 = .ok (.istore_n 1, 1) := by decide +kernel
theorem dL_pens_80 : decode cL_pens 80 = .ok (.iload 8, 2) := by decide +kernel
theorem dL_pens_82 : decode cL_pens 82 = .ok (.ifCond .eq 14, 3) := by decide +kernel
theorem dL_pens_85 : decode cL_pens 85 = .ok (.iload 7, 2) := by decide +kernel
theorem dL_pens_87 : decode cL_pens 87 = .ok (.iload_n 2, 1) := by decide +kernel
theorem dL_pens_88 : decode cL_pens 88 = .ok (.if_icmp .ge 8, 3) := by decide +kernel
theorem dL_pens_91 : decode cL_pens 91 = .ok (.iload 7, 2) := by decide +kernel
theorem dL_pens_93 : decode cL_pens 93 = .ok (.goto 4, 3) := by decide +kernel
theorem dL_pens_96 : decode cL_pens 96 = .ok (.iload_n 2, 1) := by decide +kernel
theorem dL_pens_97 : decode cL_pens 97 = .ok (.istore_n 2, 1) := by decide +kernel
theorem dL_pens_98 : decode cL_pens 98 = .ok (.iload_n 3, 1) := by decide +kernel
theorem dL_pens_99 : decode cL_pens 99 = .ok (.aload_n 0, 1) := by decide +kernel
theorem dL_pens_100 : decode cL_pens 100 = .ok (.iload 6, 2) := by decide +kernel
theorem dL_pens_102 : decode cL_pens 102 = .ok (.bipush 8, 2) := by decide +kernel
theorem dL_pens_104 : decode cL_pens 104 = .ok (.invokevirtual 16, 3) := by decide +kernel
theorem dL_pens_107 : decode cL_pens 107 = .ok (.iload 6, 2) := by decide +kernel
theorem dL_pens_109 : decode cL_pens 109 = .ok (.ishl, 1) := by decide +kernel
theorem dL_pens_110 : decode cL_pens 110 = .ok (.ior, 1) := by decide +kernel
theorem dL_pens_111 : decode cL_pens 111 = .ok (.istore_n 3, 1) := by decide +kernel
theorem dL_pens_112 : decode cL_pens 112 = .ok (.aload_n 0, 1) := by decide +kernel
theorem dL_pens_113 : decode cL_pens 113 = .ok (.iload 6, 2) := by decide +kernel
theorem dL_pens_115 : decode cL_pens 115 = .ok (.iconst 2, 1) := by decide +kernel
theorem dL_pens_116 : decode cL_pens 116 = .ok (.invokevirtual 16, 3) := by decide +kernel
theorem dL_pens_119 : decode cL_pens 119 = .ok (.ifCond .lt 112, 3) := by decide +kernel
theorem dL_pens_122 : decode cL_pens 122 = .ok (.aload_n 0, 1) := by decide +kernel
theorem dL_pens_123 : decode cL_pens 123 = .ok (.iload 6, 2) := by decide +kernel
theorem dL_pens_125 : decode cL_pens 125 = .ok (.iconst 2, 1) := by decide +kernel
theorem dL_pens_126 : decode cL_pens 126 = .ok (.invokevirtual 16, 3) := by decide +kernel
theorem dL_pens_129 : decode cL_pens 129 = .ok (.aload_n 0, 1) := by decide +kernel
theorem dL_pens_130 : decode cL_pens 130 = .ok (.iload 6, 2) := by decide +kernel
theorem dL_pens_132 : decode cL_pens 132 = .ok (.iconst 1, 1) := by decide +kernel
theorem dL_pens_133 : decode cL_pens 133 = .ok (.invokevirtual 16, 3) := by decide +kernel
theorem dL_pens_136 : decode cL_pens 136 = .ok (.if_icmp .gt 95, 3) := by decide +kernel
theorem dL_pens_139 : decode cL_pens 139 = .ok (.aload_n 0, 1) := by decide +kernel
theorem dL_pens_140 : decode cL_pens 140 = .ok (.iload 6, 2) := by decide +kernel
theorem dL_pens_142 : decode cL_pens 142 = .ok (.iconst 4, 1) := by decide +kernel
theorem dL_pens_143 : decode cL_pens 143 = .ok (.invokevirtual 16, 3) := by decide +kernel
theorem dL_pens_146 : decode cL_pens 146 = .ok (.ifCond .lt 85, 3) := by decide +kernel
theorem dL_pens_149 : decode cL_pens 149 = .ok (.aload_n 0, 1) := by decide +kernel
theorem dL_pens_150 : decode cL_pens 150 = .ok (.iload 6, 2) := by decide +kernel
theorem dL_pens_152 : decode cL_pens 152 = .ok (.bipush 6, 2) := by decide +kernel
theorem dL_pens_154 : decode cL_pens 154 = .ok (.invokevirtual 16, 3) := by decide +kernel
theorem dL_pens_157 : decode cL_pens 157 = .ok (.iload 4, 2) := by decide +kernel
theorem dL_pens_159 : decode cL_pens 159 = .ok (.iload 6, 2) := by decide +kernel
theorem dL_pens_161 : decode cL_pens 161 = .ok (.if_icmp .ne 7, 3) := by decide +kernel
theorem dL_pens_164 : decode cL_pens 164 = .ok (.iconst 1, 1) := by decide +kernel
theorem dL_pens_165 : decode cL_pens 165 = .ok (.goto 4, 3) := by decide +kernel
theorem dL_pens_168 : decode cL_pens 168 = .ok (.iconst 0, 1) := by decide +kernel
theorem dL_pens_169 : decode cL_pens 169 = .ok (.if_icmp .ne 62, 3) := by decide +kernel
theorem dL_pens_172 : decode cL_pens 172 = .ok (.iload 8, 2) := by decide +kernel
theorem dL_pens_174 : decode cL_pens 174 = .ok (.ifCond .ne 21, 3) := by decide +kernel
theorem dL_pens_177 : decode cL_pens 177 = .ok (.aload_n 0, 1) := by decide +kernel
theorem dL_pens_178 : decode cL_pens 178 = .ok (.iload 6, 2) := by decide +kernel
theorem dL_pens_180 : decode cL_pens 180 = .ok (.bipush 8, 2) := by decide +kernel
theorem dL_pens_182 : decode cL_pens 182 = .ok (.invokevirtual 16, 3) := by decide +kernel
theorem dL_pens_185 : decode cL_pens 185 = .ok (.ifCond .ne 46, 3) := by decide +kernel
theorem dL_pens_188 : decode cL_pens 188 = .ok (.iload 4, 2) := by decide +kernel
theorem dL_pens_190 : decode cL_pens 190 = .ok (.iload 6, 2) := by decide +kernel
theorem dL_pens_192 : decode cL_pens 192 = .ok (.if_icmp .eq 39, 3) := by decide +kernel
theorem dL_pens_195 : decode cL_pens 195 = .ok (.aload_n 0, 1) := by decide +kernel
theorem dL_pens_196 : decode cL_pens 196 = .ok (.iload 6, 2) := by decide +kernel
theorem dL_pens_198 : decode cL_pens 198 = .ok (.bipush 9, 2) := by decide +kernel
theorem dL_pens_200 : decode cL_pens 200 = .ok (.invokevirtual 16, 3) := by decide +kernel
theorem dL_pens_203 : decode cL_pens 203 = .ok (.aload_n 0, 1) := by decide +kernel
theorem dL_pens_204 : decode cL_pens 204 = .ok (.iload 6, 2) := by decide +kernel
theorem dL_pens_206 : decode cL_pens 206 = .ok (.iconst 4, 1) := by decide +kernel
theorem dL_pens_207 : decode cL_pens 207 = .ok (.invokevirtual 16, 3) := by decide +kernel
theorem dL_pens_210 : decode cL_pens 210 = .ok (.aload_n 0, 1) := by decide +kernel
theorem dL_pens_211 : decode cL_pens 211 = .ok (.bipush 21, 2) := by decide +kernel
theorem dL_pens_213 : decode cL_pens 213 = .ok (.invokevirtual 10, 3) := by decide +kernel
theorem dL_pens_216 : decode cL_pens 216 = .ok (.if_icmp .le 7, 3) := by decide +kernel
theorem dL_pens_219 : decode cL_pens 219 = .ok (.iconst 1, 1) := by decide +kernel
theorem dL_pens_220 : decode cL_pens 220 = .ok (.goto 4, 3) := by decide +kernel
theorem dL_pens_223 : decode cL_pens 223 = .ok (.iconst 0, 1) := by decide +kernel
theorem dL_pens_224 : decode cL_pens 224 = .ok (.if_icmp .ne 7, 3) := by decide +kernel
theorem dL_pens_227 : decode cL_pens 227 = .ok (.iconst 1, 1) := by decide +kernel
theorem dL_pens_228 : decode cL_pens 228 = .ok (.goto 4, 3) := by decide +kernel
theorem dL_pens_231 : decode cL_pens 231 = .ok (.iconst 0, 1) := by decide +kernel
theorem dL_pens_232 : decode cL_pens 232 = .ok (.istore 5, 2) := by decide +kernel
theorem dL_pens_234 : decode cL_pens 234 = .ok (.aload_n 0, 1) := by decide +kernel
theorem dL_pens_235 : decode cL_pens 235 = .ok (.iload 6, 2) := by decide +kernel
theorem dL_pens_237 : decode cL_pens 237 = .ok (.invokevirtual 20, 3) := by decide +kernel
theorem dL_pens_240 : decode cL_pens 240 = .ok (.istore 9, 2) := by decide +kernel
theorem dL_pens_242 : decode cL_pens 242 = .ok (.iload 5, 2) := by decide +kernel
theorem dL_pens_244 : decode cL_pens 244 = .ok (.ifCond .eq 59, 3) := by decide +kernel
theorem dL_pens_247 : decode cL_pens 247 = .ok (.iload 9, 2) := by decide +kernel
theorem dL_pens_249 : decode cL_pens 249 = .ok (.ldc 23, 2) := by decide +kernel
theorem dL_pens_251 : decode cL_pens 251 = .ok (.if_icmp .eq 48, 3) := by decide +kernel
theorem dL_pens_254 : decode cL_pens 254 = .ok (.iload 8, 2) := by decide +kernel
theorem dL_pens_256 : decode cL_pens 256 = .ok (.ifCond .eq 36, 3) := by decide +kernel
theorem dL_pens_259 : decode cL_pens 259 = .ok (.iload 9, 2) := by decide +kernel
theorem dL_pens_261 : decode cL_pens 261 = .ok (.ifCond .ge 7, 3) := by decide +kernel
theorem dL_pens_264 : decode cL_pens 264 = .ok (.iconst 1, 1) := by decide +kernel
theorem dL_pens_265 : decode cL_pens 265 = .ok (.goto 4, 3) := by decide +kernel
theorem dL_pens_268 : decode cL_pens 268 = .ok (.iconst 0, 1) := by decide +kernel
theorem dL_pens_269 : decode cL_pens 269 = .ok (.aload_n 0, 1) := by decide +kernel
theorem dL_pens_270 : decode cL_pens 270 = .ok (.iload 6, 2) := by decide +kernel
theorem dL_pens_272 : decode cL_pens 272 = .ok (.bipush 8, 2) := by decide +kernel
theorem dL_pens_274 : decode cL_pens 274 = .ok (.invokevirtual 16, 3) := by decide +kernel
theorem dL_pens_277 : decode cL_pens 277 = .ok (.iconst 1, 1) := by decide +kernel
theorem dL_pens_278 : decode cL_pens 278 = .ok (.if_icmp .ne 7, 3) := by decide +kernel
theorem dL_pens_281 : decode cL_pens 281 = .ok (.iconst 1, 1) := by decide +kernel
theorem dL_pens_282 : decode cL_pens 282 = .ok (.goto 4, 3) := by decide +kernel
theorem dL_pens_285 : decode cL_pens 285 = .ok (.iconst 0, 1) := by decide +kernel
theorem dL_pens_286 : decode cL_pens 286 = .ok (.if_icmp .ne 17, 3) := by decide +kernel
theorem dL_pens_289 : decode cL_pens 289 = .ok (.goto 10, 3) := by decide +kernel
theorem dL_pens_292 : decode cL_pens 292 = .ok (.iload 9, 2) := by decide +kernel
theorem dL_pens_294 : decode cL_pens 294 = .ok (.ldc 24, 2) := by decide +kernel
theorem dL_pens_296 : decode cL_pens 296 = .ok (.if_icmp .ne 7, 3) := by decide +kernel
theorem dL_pens_299 : decode cL_pens 299 = .ok (.iconst 1, 1) := by decide +kernel
theorem dL_pens_300 : decode cL_pens 300 = .ok (.goto 4, 3) := by decide +kernel
theorem dL_pens_303 : decode cL_pens 303 = .ok (.iconst 0, 1) := by decide +kernel
theorem dL_pens_304 : decode cL_pens 304 = .ok (.istore 5, 2) := by decide +kernel
theorem dL_pens_306 : decode cL_pens 306 = .ok (.iinc 6 1, 3) := by decide +kernel
theorem dL_pens_309 : decode cL_pens 309 = .ok (.goto (-289), 3) := by decide +kernel
theorem dL_pens_312 : decode cL_pens 312 = .ok (.iload 5, 2) := by decide +kernel
theorem dL_pens_314 : decode cL_pens 314 = .ok (.ifCond .eq 51, 3) := by decide +kernel
theorem dL_pens_317 : decode cL_pens 317 = .ok (.aload_n 0, 1) := by decide +kernel
theorem dL_pens_318 : decode cL_pens 318 = .ok (.invokevirtual 25, 3) := by decide +kernel
theorem dL_pens_321 : decode cL_pens 321 = .ok (.iload_n 3, 1) := by decide +kernel
theorem dL_pens_322 : decode cL_pens 322 = .ok (.if_icmp .ne 43, 3) := by decide +kernel
theorem dL_pens_325 : decode cL_pens 325 = .ok (.aload_n 0, 1) := by decide +kernel
theorem dL_pens_326 : decode cL_pens 326 = .ok (.invokevirtual 29, 3) := by decide +kernel
theorem dL_pens_329 : decode cL_pens 329 = .ok (.iload_n 1, 1) := by decide +kernel
theorem dL_pens_330 : decode cL_pens 330 = .ok (.ifCond .ge 8, 3) := by decide +kernel
theorem dL_pens_333 : decode cL_pens 333 = .ok (.ldc 23, 2) := by decide +kernel
theorem dL_pens_335 : decode cL_pens 335 = .ok (.goto 6, 3) := by decide +kernel
theorem dL_pens_338 : decode cL_pens 338 = .ok (.iload_n 1, 1) := by decide +kernel
theorem dL_pens_339 : decode cL_pens 339 = .ok (.iload_n 2, 1) := by decide +kernel
theorem dL_pens_340 : decode cL_pens 340 = .ok (.isub, 1) := by decide +kernel
theorem dL_pens_341 : decode cL_pens 341 = .ok (.if_icmp .ne 24, 3) := by decide +kernel
theorem dL_pens_344 : decode cL_pens 344 = .ok (.iload_n 3, 1) := by decide +kernel
theorem dL_pens_345 : decode cL_pens 345 = .ok (.ifCond .eq 16, 3) := by decide +kernel
theorem dL_pens_348 : decode cL_pens 348 = .ok (.aload_n 0, 1) := by decide +kernel
theorem dL_pens_349 : decode cL_pens 349 = .ok (.invokevirtual 29, 3) := by decide +kernel
theorem dL_pens_352 : decode cL_pens 352 = .ok (.aload_n 0, 1) := by decide +kernel
theorem dL_pens_353 : decode cL_pens 353 = .ok (.bipush 20, 2) := by decide +kernel
theorem dL_pens_355 : decode cL_pens 355 = .ok (.invokevirtual 10, 3) := by decide +kernel
theorem dL_pens_358 : decode cL_pens 358 = .ok (.if_icmp .le 7, 3) := by decide +kernel
theorem dL_pens_361 : decode cL_pens 361 = .ok (.iconst 1, 1) := by decide +kernel
theorem dL_pens_362 : decode cL_pens 362 = .ok (.goto 4, 3) := by decide +kernel
theorem dL_pens_365 : decode cL_pens 365 = .ok (.iconst 0, 1) := by decide +kernel
theorem dL_pens_366 : decode cL_pens 366 = .ok (.ireturn, 1) := by decide +kernel
theorem dL_lines_0 : decode cL_lines 0 = .ok (.iconst 0, 1) := by decide +kernel
theorem dL_lines_1 : decode cL_lines 1 = .ok (.istore_n 1, 1) := by decide +kernel
theorem dL_lines_2 : decode cL_lines 2 = .ok (.iconst 0, 1) := by decide +kernel
theorem dL_lines_3 : decode cL_lines 3 = .ok (.istore_n 2, 1) := by decide +kernel
theorem dL_lines_4 : decode cL_lines 4 = .ok (.iconst 0, 1) := by decide +kernel
theorem dL_lines_5 : decode cL_lines 5 = .ok (.istore_n 3, 1) := by decide +kernel
theorem dL_lines_6 : decode cL_lines 6 = .ok (.iconst 0, 1) := by decide +kernel
theorem dL_lines_7 : decode cL_lines 7 = .ok (.istore 4, 2) := by decide +kernel
theorem dL_lines_9 : decode cL_lines 9 = .ok (.iconst 1, 1) := by decide +kernel
theorem dL_lines_10 : decode cL_lines 10 = .ok (.istore 5, 2) := by decide +kernel
theorem dL_lines_12 : decode cL_lines 12 = .ok (.iconst 0, 1) := by decide +kernel
theorem dL_lines_13 : decode cL_lines 13 = .ok (.istore 6, 2) := by decide +kernel
theorem dL_lines_15 : decode cL_lines 15 = .ok (.iload 6, 2) := by decide +kernel
theorem dL_lines_17 : decode cL_lines 17 = .ok (.aload_n 0, 1) := by decide +kernel
theorem dL_lines_18 : decode cL_lines 18 = .ok (.iconst 1, 1) := by decide +kernel
theorem dL_lines_19 : decode cL_lines 19 = .ok (.invokevirtual 10, 3) := by decide +kernel
theorem dL_lines_22 : decode cL_lines 22 = .ok (.if_icmp .ge 327, 3) := by decide +kernel
theorem dL_lines_25 : decode cL_lines 25 = .ok (.iload 5, 2) := by decide +kernel
theorem dL_lines_27 : decode cL_lines 27 = .ok (.ifCond .eq 322, 3) := by decide +kernel
theorem dL_lines_30 : decode cL_lines 30 = .ok (.aload_n 0, 1) := by decide +kernel
theorem dL_lines_31 : decode cL_lines 31 = .ok (.iload 6, 2) := by decide +kernel
theorem dL_lines_33 : decode cL_lines 33 = .ok (.bipush 6, 2) := by decide +kernel
theorem dL_lines_35 : decode cL_lines 35 = .ok (.invokevirtual 32, 3) := by decide +kernel
theorem dL_lines_38 : decode cL_lines 38 = .ok (.istore 7, 2) := by decide +kernel
theorem dL_lines_40 : decode cL_lines 40 = .ok (.aload_n 0, 1) := by decide +kernel
theorem dL_lines_41 : decode cL_lines 41 = .ok (.iload 6, 2) := by decide +kernel
theorem dL_lines_43 : decode cL_lines 43 = .ok (.iconst 5, 1) := by decide +kernel
theorem dL_lines_44 : decode cL_lines 44 = .ok (.invokevirtual 32, 3) := by decide +kernel
theorem dL_lines_47 : decode cL_lines 47 = .ok (.iconst 1, 1) := by decide +kernel
theorem dL_lines_48 : decode cL_lines 48 = .ok (.if_icmp .ne 7, 3) := by decide +kernel
theorem dL_lines_51 : decode cL_lines 51 = .ok (.iconst 1, 1) := by decide +kernel
theorem dL_lines_52 : decode cL_lines 52 = .ok (.goto 4, 3) := by decide +kernel
theorem dL_lines_55 : decode cL_lines 55 = .ok (.iconst 0, 1) := by decide +kernel
theorem dL_lines_56 : decode cL_lines 56 = .ok (.istore 8, 2) := by decide +kernel
theorem dL_lines_58 : decode cL_lines 58 = .ok (.iload_n 1, 1) := by decide +kernel
theorem dL_lines_59 : decode cL_lines 59 = .ok (.iload 8, 2) := by decide +kernel
theorem dL_lines_61 : decode cL_lines 61 = .ok (.ifCond .eq 7, 3) := by decide +kernel
theorem dL_lines_64 : decode cL_lines 64 = .ok (.iconst 1, 1) := by decide +kernel
theorem dL_lines_65 : decode cL_lines 65 = .ok (.goto 4, 3) := by decide +kernel
theorem dL_lines_68 : decode cL_lines 68 = .ok (.iconst 0, 1) := by decide +kernel
theorem dL_lines_69 : decode cL_lines 69 = .ok (.iadd, 1) := by decide +kernel
theorem dL_lines_70 : decode cL_lines 70 = .ok (.istore_n 1, 1) := by decide +kernel
theorem dL_lines_71 : decode cL_lines 71 = .ok (.iload 4, 2) := by decide +kernel
theorem dL_lines_73 : decode cL_lines 73 = .ok (.iload 8, 2) := by decide +kernel
theorem dL_lines_75 : decode cL_lines 75 = .ok (.ifCond .eq 7, 3) := by decide +kernel
theorem dL_lines_78 : decode cL_lines 78 = .ok (.iconst 2, 1) := by decide +kernel
theorem dL_lines_79 : decode cL_lines 79 = .ok (.goto 4, 3) := by decide +kernel
theorem dL_lines_82 : decode cL_lines 82 = .ok (.iconst 0, 1) := by decide +kernel
theorem dL_lines_83 : decode cL_lines 83 = .ok (.iadd, 1) := by decide +kernel
theorem dL_lines_84 : decode cL_lines 84 = .ok (.istore 4, 2) := by decide +kernel
theorem dL_lines_86 : decode cL_lines 86 = .ok (.iload_n 2, 1) := by decide +kernel
theorem dL_lines_87 : decode cL_lines 87 = .ok (.aload_n 0, 1) := by decide +kernel
theorem dL_lines_88 : decode cL_lines 88 = .ok (.iload 6, 2) := by decide +kernel
theorem dL_lines_90 : decode cL_lines 90 = .ok (.bipush 8, 2) := by decide +kernel
theorem dL_lines_92 : decode cL_lines 92 = .ok (.invokevirtual 32, 3) := by decide +kernel
theorem dL_lines_95 : decode cL_lines 95 = .ok (.iadd, 1) := by decide +kernel
theorem dL_lines_96 : decode cL_lines 96 = .ok (.istore_n 2, 1) := by decide +kernel
theorem dL_lines_97 : decode cL_lines 97 = .ok (.iload_n 3, 1) := by decide +kernel
theorem dL_lines_98 : decode cL_lines 98 = .ok (.iload 8, 2) := by decide +kernel
theorem dL_lines_100 : decode cL_lines 100 = .ok (.ifCond .eq 7, 3) := by decide +kernel
theorem dL_lines_103 : decode cL_lines 103 = .ok (.iconst 0, 1) := by decide +kernel
theorem dL_lines_104 : decode cL_lines 104 = .ok (.goto 10, 3) := by decide +kernel
theorem dL_lines_107 : decode cL_lines 107 = .ok (.aload_n 0, 1) := by decide +kernel
theorem dL_lines_108 : decode cL_lines 108 = .ok (.iload 6, 2) := by decide +kernel
theorem dL_lines_110 : decode cL_lines 110 = .ok (.iconst 4, 1) := by decide +kernel
theorem dL_lines_111 : decode cL_lines 111 = .ok (.invokevirtual 32, 3) := by decide +kernel
theorem dL_lines_114 : decode cL_lines 114 = .ok (.iadd, 1) := by decide +kernel
theorem dL_lines_115 : decode cL_lines 115 = .ok (.istore_n 3, 1) := by decide +kernel
theorem dL_lines_116 : decode cL_lines 116 = .ok (.aload_n 0, 1) := by decide +kernel
theorem dL_lines_117 : decode cL_lines 117 = .ok (.iload 6, 2) := by decide +kernel
theorem dL_lines_119 : decode cL_lines 119 = .ok (.iconst 4, 1) := by decide +kernel
theorem dL_lines_120 : decode cL_lines 120 = .ok (.invokevirtual 32, 3) := by decide +kernel
theorem dL_lines_123 : decode cL_lines 123 = .ok (.ifCond .le 108, 3) := by decide +kernel
theorem dL_lines_126 : decode cL_lines 126 = .ok (.iload 7, 2) := by decide +kernel
theorem dL_lines_128 : decode cL_lines 128 = .ok (.ifCond .lt 7, 3) := by decide +kernel
theorem dL_lines_131 : decode cL_lines 131 = .ok (.iconst 1, 1) := by decide +kernel
theorem dL_lines_132 : decode cL_lines 132 = .ok (.goto 4, 3) := by decide +kernel
theorem dL_lines_135 : decode cL_lines 135 = .ok (.iconst 0, 1) := by decide +kernel
theorem dL_lines_136 : decode cL_lines 136 = .ok (.iload 8, 2) := by decide +kernel
theorem dL_lines_138 : decode cL_lines 138 = .ok (.if_icmp .ne 93, 3) := by decide +kernel
theorem dL_lines_141 : decode cL_lines 141 = .ok (.iload 8, 2) := by decide +kernel
theorem dL_lines_143 : decode cL_lines 143 = .ok (.ifCond .ne 27, 3) := by decide +kernel
theorem dL_lines_146 : decode cL_lines 146 = .ok (.aload_n 0, 1) := by decide +kernel
theorem dL_lines_147 : decode cL_lines 147 = .ok (.iload 6, 2) := by decide +kernel
theorem dL_lines_149 : decode cL_lines 149 = .ok (.bipush 8, 2) := by decide +kernel
theorem dL_lines_151 : decode cL_lines 151 = .ok (.invokevirtual 32, 3) := by decide +kernel
theorem dL_lines_154 : decode cL_lines 154 = .ok (.ifCond .ne 77, 3) := by decide +kernel
theorem dL_lines_157 : decode cL_lines 157 = .ok (.aload_n 0, 1) := by decide +kernel
theorem dL_lines_158 : decode cL_lines 158 = .ok (.iload 6, 2) := by decide +kernel
theorem dL_lines_160 : decode cL_lines 160 = .ok (.bipush 9, 2) := by decide +kernel
theorem dL_lines_162 : decode cL_lines 162 = .ok (.invokevirtual 32, 3) := by decide +kernel
theorem dL_lines_165 : decode cL_lines 165 = .ok (.ldc 23, 2) := by decide +kernel
theorem dL_lines_167 : decode cL_lines 167 = .ok (.if_icmp .ne 64, 3) := by decide +kernel
theorem dL_lines_170 : decode cL_lines 170 = .ok (.iload 8, 2) := by decide +kernel
theorem dL_lines_172 : decode cL_lines 172 = .ok (.ifCond .eq 43, 3) := by decide +kernel
theorem dL_lines_175 : decode cL_lines 175 = .ok (.aload_n 0, 1) := by decide +kernel
theorem dL_lines_176 : decode cL_lines 176 = .ok (.iload 6, 2) := by decide +kernel
theorem dL_lines_178 : decode cL_lines 178 = .ok (.bipush 7, 2) := by decide +kernel
theorem dL_lines_180 : decode cL_lines 180 = .ok (.invokevirtual 32, 3) := by decide +kernel
theorem dL_lines_183 : decode cL_lines 183 = .ok (.aload_n 0, 1) := by decide +kernel
theorem dL_lines_184 : decode cL_lines 184 = .ok (.iconst 4, 1) := by decide +kernel
theorem dL_lines_185 : decode cL_lines 185 = .ok (.invokevirtual 10, 3) := by decide +kernel
theorem dL_lines_188 : decode cL_lines 188 = .ok (.if_icmp .gt 43, 3) := by decide +kernel
theorem dL_lines_191 : decode cL_lines 191 = .ok (.aload_n 0, 1) := by decide +kernel
theorem dL_lines_192 : decode cL_lines 192 = .ok (.iload 6, 2) := by decide +kernel
theorem dL_lines_194 : decode cL_lines 194 = .ok (.bipush 9, 2) := by decide +kernel
theorem dL_lines_196 : decode cL_lines 196 = .ok (.invokevirtual 32, 3) := by decide +kernel
theorem dL_lines_199 : decode cL_lines 199 = .ok (.ifCond .lt 32, 3) := by decide +kernel
theorem dL_lines_202 : decode cL_lines 202 = .ok (.aload_n 0, 1) := by decide +kernel
theorem dL_lines_203 : decode cL_lines 203 = .ok (.iload 6, 2) := by decide +kernel
theorem dL_lines_205 : decode cL_lines 205 = .ok (.bipush 9, 2) := by decide +kernel
theorem dL_lines_207 : decode cL_lines 207 = .ok (.invokevirtual 32, 3) := by decide +kernel
theorem dL_lines_210 : decode cL_lines 210 = .ok (.ldc 35, 2) := by decide +kernel
theorem dL_lines_212 : decode cL_lines 212 = .ok (.if_icmp .gt 19, 3) := by decide +kernel
theorem dL_lines_215 : decode cL_lines 215 = .ok (.aload_n 0, 1) := by decide +kernel
theorem dL_lines_216 : decode cL_lines 216 = .ok (.iload 6, 2) := by decide +kernel
theorem dL_lines_218 : decode cL_lines 218 = .ok (.iload 6, 2) := by decide +kernel
theorem dL_lines_220 : decode cL_lines 220 = .ok (.invokevirtual 36, 3) := by decide +kernel
theorem dL_lines_223 : decode cL_lines 223 = .ok (.iconst 1, 1) := by decide +kernel
theorem dL_lines_224 : decode cL_lines 224 = .ok (.if_icmp .ne 7, 3) := by decide +kernel
theorem dL_lines_227 : decode cL_lines 227 = .ok (.iconst 1, 1) := by decide +kernel
theorem dL_lines_228 : decode cL_lines 228 = .ok (.goto 4, 3) := by decide +kernel
theorem dL_lines_231 : decode cL_lines 231 = .ok (.iconst 0, 1) := by decide +kernel
theorem dL_lines_232 : decode cL_lines 232 = .ok (.istore 5, 2) := by decide +kernel
theorem dL_lines_234 : decode cL_lines 234 = .ok (.iconst 0, 1) := by decide +kernel
theorem dL_lines_235 : decode cL_lines 235 = .ok (.istore 9, 2) := by decide +kernel
theorem dL_lines_237 : decode cL_lines 237 = .ok (.iload 9, 2) := by decide +kernel
theorem dL_lines_239 : decode cL_lines 239 = .ok (.iload 6, 2) := by decide +kernel
theorem dL_lines_241 : decode cL_lines 241 = .ok (.if_icmp .ge 76, 3) := by decide +kernel
theorem dL_lines_244 : decode cL_lines 244 = .ok (.iload 5, 2) := by decide +kernel
theorem dL_lines_246 : decode cL_lines 246 = .ok (.ifCond .eq 71, 3) := by decide +kernel
theorem dL_lines_249 : decode cL_lines 249 = .ok (.aload_n 0, 1) := by decide +kernel
theorem dL_lines_250 : decode cL_lines 250 = .ok (.iload 6, 2) := by decide +kernel
theorem dL_lines_252 : decode cL_lines 252 = .ok (.iload 9, 2) := by decide +kernel
theorem dL_lines_254 : decode cL_lines 254 = .ok (.invokevirtual 36, 3) := by decide +kernel
theorem dL_lines_257 : decode cL_lines 257 = .ok (.istore 10, 2) := by decide +kernel
theorem dL_lines_259 : decode cL_lines 259 = .ok (.aload_n 0, 1) := by decide +kernel
theorem dL_lines_260 : decode cL_lines 260 = .ok (.iload 9, 2) := by decide +kernel
theorem dL_lines_262 : decode cL_lines 262 = .ok (.iload 6, 2) := by decide +kernel
theorem dL_lines_264 : decode cL_lines 264 = .ok (.invokevirtual 36, 3) := by decide +kernel
theorem dL_lines_267 : decode cL_lines 267 = .ok (.iload 10, 2) := by decide +kernel
theorem dL_lines_269 : decode cL_lines 269 = .ok (.if_icmp .ne 39, 3) := by decide +kernel
theorem dL_lines_272 : decode cL_lines 272 = .ok (.aload_n 0, 1) := by decide +kernel
theorem dL_lines_273 : decode cL_lines 273 = .ok (.iload 6, 2) := by decide +kernel
theorem dL_lines_275 : decode cL_lines 275 = .ok (.invokevirtual 39, 3) := by decide +kernel
theorem dL_lines_278 : decode cL_lines 278 = .ok (.iload 9, 2) := by decide +kernel
theorem dL_lines_280 : decode cL_lines 280 = .ok (.ishr, 1) := by decide +kernel
theorem dL_lines_281 : decode cL_lines 281 = .ok (.iconst 1, 1) := by decide +kernel
theorem dL_lines_282 : decode cL_lines 282 = .ok (.iand, 1) := by decide +kernel
theorem dL_lines_283 : decode cL_lines 283 = .ok (.iload 10, 2) := by decide +kernel
theorem dL_lines_285 : decode cL_lines 285 = .ok (.if_icmp .ne 23, 3) := by decide +kernel
theorem dL_lines_288 : decode cL_lines 288 = .ok (.aload_n 0, 1) := by decide +kernel
theorem dL_lines_289 : decode cL_lines 289 = .ok (.iload 9, 2) := by decide +kernel
theorem dL_lines_291 : decode cL_lines 291 = .ok (.invokevirtual 39, 3) := by decide +kernel
theorem dL_lines_294 : decode cL_lines 294 = .ok (.iload 6, 2) := by decide +kernel
theorem dL_lines_296 : decode cL_lines 296 = .ok (.ishr, 1) := by decide +kernel
theorem dL_lines_297 : decode cL_lines 297 = .ok (.iconst 1, 1) := by decide +kernel
theorem dL_lines_298 : decode cL_lines 298 = .ok (.iand, 1) := by decide +kernel
theorem dL_lines_299 : decode cL_lines 299 = .ok (.iload 10, 2) := by decide +kernel
theorem dL_lines_301 : decode cL_lines 301 = .ok (.if_icmp .ne 7, 3) := by decide +kernel
theorem dL_lines_304 : decode cL_lines 304 = .ok (.iconst 1, 1) := by decide +kernel
theorem dL_lines_305 : decode cL_lines 305 = .ok (.goto 4, 3) := by decide +kernel
theorem dL_lines_308 : decode cL_lines 308 = .ok (.iconst 0, 1) := by decide +kernel
theorem dL_lines_309 : decode cL_lines 309 = .ok (.istore 5, 2) := by decide +kernel
theorem dL_lines_311 : decode cL_lines 311 = .ok (.iinc 9 1, 3) := by decide +kernel
theorem dL_lines_314 : decode cL_lines 314 = .ok (.goto (-77), 3) := by decide +kernel
theorem dL_lines_317 : decode cL_lines 317 = .ok (.iload 5, 2) := by decide +kernel
theorem dL_lines_319 : decode cL_lines 319 = .ok (.ifCond .eq 21, 3) := by decide +kernel
theorem dL_lines_322 : decode cL_lines 322 = .ok (.aload_n 0, 1) := by decide +kernel
theorem dL_lines_323 : decode cL_lines 323 = .ok (.iload 6, 2) := by decide +kernel
theorem dL_lines_325 : decode cL_lines 325 = .ok (.invokevirtual 39, 3) := by decide +kernel
theorem dL_lines_328 : decode cL_lines 328 = .ok (.iload 6, 2) := by decide +kernel
theorem dL_lines_330 : decode cL_lines 330 = .ok (.ishr, 1) := by decide +kernel
theorem dL_lines_331 : decode cL_lines 331 = .ok (.iconst 1, 1) := by decide +kernel
theorem dL_lines_332 : decode cL_lines 332 = .ok (.iand, 1) := by decide +kernel
theorem dL_lines_333 : decode cL_lines 333 = .ok (.ifCond .ne 7, 3) := by decide +kernel
theorem dL_lines_336 : decode cL_lines 336 = .ok (.iconst 1, 1) := by decide +kernel
theorem dL_lines_337 : decode cL_lines 337 = .ok (.goto 4, 3) := by decide +kernel
theorem dL_lines_340 : decode cL_lines 340 = .ok (.iconst 0, 1) := by decide +kernel
theorem dL_lines_341 : decode cL_lines 341 = .ok (.istore 5, 2) := by decide +kernel
theorem dL_lines_343 : decode cL_lines 343 = .ok (.iinc 6 1, 3) := by decide +kernel
theorem dL_lines_346 : decode cL_lines 346 = .ok (.goto (-331), 3) := by decide +kernel
theorem dL_lines_349 : decode cL_lines 349 = .ok (.iconst 0, 1) := by decide +kernel
theorem dL_lines_350 : decode cL_lines 350 = .ok (.istore 6, 2) := by decide +kernel
theorem dL_lines_352 : decode cL_lines 352 = .ok (.iconst 0, 1) := by decide +kernel
theorem dL_lines_353 : decode cL_lines 353 = .ok (.istore 7, 2) := by decide +kernel
theorem dL_lines_355 : decode cL_lines 355 = .ok (.iload 7, 2) := by decide +kernel
theorem dL_lines_357 : decode cL_lines 357 = .ok (.aload_n 0, 1) := by decide +kernel
theorem dL_lines_358 : decode cL_lines 358 = .ok (.iconst 0, 1) := by decide +kernel
theorem dL_lines_359 : decode cL_lines 359 = .ok (.invokevirtual 10, 3) := by decide +kernel
theorem dL_lines_362 : decode cL_lines 362 = .ok (.if_icmp .ge 27, 3) := by decide +kernel
theorem dL_lines_365 : decode cL_lines 365 = .ok (.iload 5, 2) := by decide +kernel
theorem dL_lines_367 : decode cL_lines 367 = .ok (.ifCond .eq 22, 3) := by decide +kernel
theorem dL_lines_370 : decode cL_lines 370 = .ok (.iload 6, 2) := by decide +kernel
theorem dL_lines_372 : decode cL_lines 372 = .ok (.aload_n 0, 1) := by decide +kernel
theorem dL_lines_373 : decode cL_lines 373 = .ok (.iload 7, 2) := by decide +kernel
theorem dL_lines_375 : decode cL_lines 375 = .ok (.bipush 10, 2) := by decide +kernel
theorem dL_lines_377 : decode cL_lines 377 = .ok (.invokevirtual 16, 3) := by decide +kernel
theorem dL_lines_380 : decode cL_lines 380 = .ok (.iadd, 1) := by decide +kernel
theorem dL_lines_381 : decode cL_lines 381 = .ok (.istore 6, 2) := by decide +kernel
theorem dL_lines_383 : decode cL_lines 383 = .ok (.iinc 7 1, 3) := by decide +kernel
theorem dL_lines_386 : decode cL_lines 386 = .ok (.goto (-31), 3) := by decide +kernel
theorem dL_lines_389 : decode cL_lines 389 = .ok (.iload 5, 2) := by decide +kernel
theorem dL_lines_391 : decode cL_lines 391 = .ok (.ifCond .eq 85, 3) := by decide +kernel
theorem dL_lines_394 : decode cL_lines 394 = .ok (.aload_n 0, 1) := by decide +kernel
theorem dL_lines_395 : decode cL_lines 395 = .ok (.iconst 2, 1) := by decide +kernel
theorem dL_lines_396 : decode cL_lines 396 = .ok (.invokevirtual 10, 3) := by decide +kernel
theorem dL_lines_399 : decode cL_lines 399 = .ok (.iload_n 1, 1) := by decide +kernel
theorem dL_lines_400 : decode cL_lines 400 = .ok (.if_icmp .ne 76, 3) := by decide +kernel
theorem dL_lines_403 : decode cL_lines 403 = .ok (.iload 6, 2) := by decide +kernel
theorem dL_lines_405 : decode cL_lines 405 = .ok (.iload_n 1, 1) := by decide +kernel
theorem dL_lines_406 : decode cL_lines 406 = .ok (.if_icmp .ne 70, 3) := by decide +kernel
theorem dL_lines_409 : decode cL_lines 409 = .ok (.aload_n 0, 1) := by decide +kernel
theorem dL_lines_410 : decode cL_lines 410 = .ok (.iconst 3, 1) := by decide +kernel
theorem dL_lines_411 : decode cL_lines 411 = .ok (.invokevirtual 10, 3) := by decide +kernel
theorem dL_lines_414 : decode cL_lines 414 = .ok (.iload_n 2, 1) := by decide +kernel
theorem dL_lines_415 : decode cL_lines 415 = .ok (.if_icmp .ne 61, 3) := by decide +kernel
theorem dL_lines_418 : decode cL_lines 418 = .ok (.aload_n 0, 1) := by decide +kernel
theorem dL_lines_419 : decode cL_lines 419 = .ok (.bipush 8, 2) := by decide +kernel
theorem dL_lines_421 : decode cL_lines 421 = .ok (.invokevirtual 10, 3) := by decide +kernel
theorem dL_lines_424 : decode cL_lines 424 = .ok (.iload_n 3, 1) := by decide +kernel
theorem dL_lines_425 : decode cL_lines 425 = .ok (.if_icmp .ne 51, 3) := by decide +kernel
theorem dL_lines_428 : decode cL_lines 428 = .ok (.aload_n 0, 1) := by decide +kernel
theorem dL_lines_429 : decode cL_lines 429 = .ok (.invokevirtual 42, 3) := by decide +kernel
theorem dL_lines_432 : decode cL_lines 432 = .ok (.ifCond .lt 44, 3) := by decide +kernel
theorem dL_lines_435 : decode cL_lines 435 = .ok (.aload_n 0, 1) := by decide +kernel
theorem dL_lines_436 : decode cL_lines 436 = .ok (.invokevirtual 42, 3) := by decide +kernel
theorem dL_lines_439 : decode cL_lines 439 = .ok (.iload 4, 2) := by decide +kernel
theorem dL_lines_441 : decode cL_lines 441 = .ok (.iconst 2, 1) := by decide +kernel
theorem dL_lines_442 : decode cL_lines 442 = .ok (.idiv, 1) := by decide +kernel
theorem dL_lines_443 : decode cL_lines 443 = .ok (.if_icmp .gt 33, 3) := by decide +kernel
theorem dL_lines_446 : decode cL_lines 446 = .ok (.aload_n 0, 1) := by decide +kernel
theorem dL_lines_447 : decode cL_lines 447 = .ok (.invokevirtual 45, 3) := by decide +kernel
theorem dL_lines_450 : decode cL_lines 450 = .ok (.ldc 23, 2) := by decide +kernel
theorem dL_lines_452 : decode cL_lines 452 = .ok (.if_icmp .ne 7, 3) := by decide +kernel
theorem dL_lines_455 : decode cL_lines 455 = .ok (.iconst 1, 1) := by decide +kernel
theorem dL_lines_456 : decode cL_lines 456 = .ok (.goto 4, 3) := by decide +kernel
theorem dL_lines_459 : decode cL_lines 459 = .ok (.iconst 0, 1) := by decide +kernel
theorem dL_lines_460 : decode cL_lines 460 = .ok (.iload_n 1, 1) := by decide +kernel
theorem dL_lines_461 : decode cL_lines 461 = .ok (.ifCond .ne 7, 3) := by decide +kernel
theorem dL_lines_464 : decode cL_lines 464 = .ok (.iconst 1, 1) := by decide +kernel
theorem dL_lines_465 : decode cL_lines 465 = .ok (.goto 4, 3) := by decide +kernel
theorem dL_lines_468 : decode cL_lines 468 = .ok (.iconst 0, 1) := by decide +kernel
theorem dL_lines_469 : decode cL_lines 469 = .ok (.if_icmp .ne 7, 3) := by decide +kernel
theorem dL_lines_472 : decode cL_lines 472 = .ok (.iconst 1, 1) := by decide +kernel
theorem dL_lines_473 : decode cL_lines 473 = .ok (.goto 4, 3) := by decide +kernel
theorem dL_lines_476 : decode cL_lines 476 = .ok (.iconst 0, 1) := by decide +kernel
theorem dL_lines_477 : decode cL_lines 477 = .ok (.ireturn, 1) := by decide +kernel
theorem dL_draws_0 : decode cL_draws 0 = .ok (.aload_n 0, 1) := by decide +kernel
theorem dL_draws_1 : decode cL_draws 1 = .ok (.iload_n 1, 1) := by decide +kernel
theorem dL_draws_2 : decode cL_draws 2 = .ok (.iload_n 2, 1) := by decide +kernel
theorem dL_draws_3 : decode cL_draws 3 = .ok (.invokevirtual 48, 3) := by decide +kernel
theorem dL_draws_6 : decode cL_draws 6 = .ok (.istore_n 3, 1) := by decide +kernel
theorem dL_draws_7 : decode cL_draws 7 = .ok (.aload_n 0, 1) := by decide +kernel
theorem dL_draws_8 : decode cL_draws 8 = .ok (.iconst 4, 1) := by decide +kernel
theorem dL_draws_9 : decode cL_draws 9 = .ok (.invokevirtual 10, 3) := by decide +kernel
theorem dL_draws_12 : decode cL_draws 12 = .ok (.istore 4, 2) := by decide +kernel
theorem dL_draws_14 : decode cL_draws 14 = .ok (.aload_n 0, 1) := by decide +kernel
theorem dL_draws_15 : decode cL_draws 15 = .ok (.iconst 5, 1) := by decide +kernel
theorem dL_draws_16 : decode cL_draws 16 = .ok (.invokevirtual 10, 3) := by decide +kernel
theorem dL_draws_19 : decode cL_draws 19 = .ok (.istore 5, 2) := by decide +kernel
theorem dL_draws_21 : decode cL_draws 21 = .ok (.iload_n 3, 1) := by decide +kernel
theorem dL_draws_22 : decode cL_draws 22 = .ok (.ifCond .le 74, 3) := by decide +kernel
theorem dL_draws_25 : decode cL_draws 25 = .ok (.aload_n 0, 1) := by decide +kernel
theorem dL_draws_26 : decode cL_draws 26 = .ok (.iload_n 1, 1) := by decide +kernel
theorem dL_draws_27 : decode cL_draws 27 = .ok (.iload_n 2, 1) := by decide +kernel
theorem dL_draws_28 : decode cL_draws 28 = .ok (.invokevirtual 51, 3) := by decide +kernel
theorem dL_draws_31 : decode cL_draws 31 = .ok (.ldc 24, 2) := by decide +kernel
theorem dL_draws_33 : decode cL_draws 33 = .ok (.if_icmp .ne 61, 3) := by decide +kernel
theorem dL_draws_36 : decode cL_draws 36 = .ok (.aload_n 0, 1) := by decide +kernel
theorem dL_draws_37 : decode cL_draws 37 = .ok (.iconst 4, 1) := by decide +kernel
theorem dL_draws_38 : decode cL_draws 38 = .ok (.invokevirtual 10, 3) := by decide +kernel
theorem dL_draws_41 : decode cL_draws 41 = .ok (.iload 4, 2) := by decide +kernel
theorem dL_draws_43 : decode cL_draws 43 = .ok (.if_icmp .ne 51, 3) := by decide +kernel
theorem dL_draws_46 : decode cL_draws 46 = .ok (.iload_n 3, 1) := by decide +kernel
theorem dL_draws_47 : decode cL_draws 47 = .ok (.iconst 1, 1) := by decide +kernel
theorem dL_draws_48 : decode cL_draws 48 = .ok (.if_icmp .ne 10, 3) := by decide +kernel
theorem dL_draws_51 : decode cL_draws 51 = .ok (.iload 5, 2) := by decide +kernel
theorem dL_draws_53 : decode cL_draws 53 = .ok (.ldc 23, 2) := by decide +kernel
theorem dL_draws_55 : decode cL_draws 55 = .ok (.if_icmp .ne 39, 3) := by decide +kernel
theorem dL_draws_58 : decode cL_draws 58 = .ok (.iload_n 3, 1) := by decide +kernel
theorem dL_draws_59 : decode cL_draws 59 = .ok (.iconst 2, 1) := by decide +kernel
theorem dL_draws_60 : decode cL_draws 60 = .ok (.if_icmp .ne 13, 3) := by decide +kernel
theorem dL_draws_63 : decode cL_draws 63 = .ok (.aload_n 0, 1) := by decide +kernel
theorem dL_draws_64 : decode cL_draws 64 = .ok (.iload_n 1, 1) := by decide +kernel
theorem dL_draws_65 : decode cL_draws 65 = .ok (.iconst 5, 1) := by decide +kernel
theorem dL_draws_66 : decode cL_draws 66 = .ok (.invokevirtual 32, 3) := by decide +kernel
theorem dL_draws_69 : decode cL_draws 69 = .ok (.iconst 1, 1) := by decide +kernel
theorem dL_draws_70 : decode cL_draws 70 = .ok (.if_icmp .ne 24, 3) := by decide +kernel
theorem dL_draws_73 : decode cL_draws 73 = .ok (.iload_n 3, 1) := by decide +kernel
theorem dL_draws_74 : decode cL_draws 74 = .ok (.iconst 3, 1) := by decide +kernel
theorem dL_draws_75 : decode cL_draws 75 = .ok (.if_icmp .ne 15, 3) := by decide +kernel
theorem dL_draws_78 : decode cL_draws 78 = .ok (.aload_n 0, 1) := by decide +kernel
theorem dL_draws_79 : decode cL_draws 79 = .ok (.iload 5, 2) := by decide +kernel
theorem dL_draws_81 : decode cL_draws 81 = .ok (.bipush 8, 2) := by decide +kernel
theorem dL_draws_83 : decode cL_draws 83 = .ok (.invokevirtual 16, 3) := by decide +kernel
theorem dL_draws_86 : decode cL_draws 86 = .ok (.iconst 1, 1) := by decide +kernel
theorem dL_draws_87 : decode cL_draws 87 = .ok (.if_icmp .ne 7, 3) := by decide +kernel
theorem dL_draws_90 : decode cL_draws 90 = .ok (.iconst 1, 1) := by decide +kernel
theorem dL_draws_91 : decode cL_draws 91 = .ok (.goto 4, 3) := by decide +kernel
theorem dL_draws_94 : decode cL_draws 94 = .ok (.iconst 0, 1) := by decide +kernel
theorem dL_draws_95 : decode cL_draws 95 = .ok (.ireturn, 1) := by decide +kernel
theorem dL_draws_96 : decode cL_draws 96 = .ok (.aload_n 0, 1) := by decide +kernel
theorem dL_draws_97 : decode cL_draws 97 = .ok (.iload 5, 2) := by decide +kernel
theorem dL_draws_99 : decode cL_draws 99 = .ok (.iconst 2, 1) := by decide +kernel
theorem dL_draws_100 : decode cL_draws 100 = .ok (.invokevirtual 16, 3) := by decide +kernel
theorem dL_draws_103 : decode cL_draws 103 = .ok (.istore 6, 2) := by decide +kernel
theorem dL_draws_105 : decode cL_draws 105 = .ok (.aload_n 0, 1) := by decide +kernel
theorem dL_draws_106 : decode cL_draws 106 = .ok (.iload 5, 2) := by decide +kernel
theorem dL_draws_108 : decode cL_draws 108 = .ok (.iconst 3, 1) := by decide +kernel
theorem dL_draws_109 : decode cL_draws 109 = .ok (.invokevirtual 16, 3) := by decide +kernel
theorem dL_draws_112 : decode cL_draws 112 = .ok (.istore 7, 2) := by decide +kernel
theorem dL_draws_114 : decode cL_draws 114 = .ok (.aload_n 0, 1) := by decide +kernel
theorem dL_draws_115 : decode cL_draws 115 = .ok (.bipush 10, 2) := by decide +kernel
theorem dL_draws_117 : decode cL_draws 117 = .ok (.invokevirtual 10, 3) := by decide +kernel
theorem dL_draws_120 : decode cL_draws 120 = .ok (.istore 8, 2) := by decide +kernel
theorem dL_draws_122 : decode cL_draws 122 = .ok (.aload_n 0, 1) := by decide +kernel
theorem dL_draws_123 : decode cL_draws 123 = .ok (.iload_n 1, 1) := by decide +kernel
theorem dL_draws_124 : decode cL_draws 124 = .ok (.iconst 4, 1) := by decide +kernel
theorem dL_draws_125 : decode cL_draws 125 = .ok (.invokevirtual 32, 3) := by decide +kernel
theorem dL_draws_128 : decode cL_draws 128 = .ok (.istore 9, 2) := by decide +kernel
theorem dL_draws_130 : decode cL_draws 130 = .ok (.aload_n 0, 1) := by decide +kernel
theorem dL_draws_131 : decode cL_draws 131 = .ok (.iload_n 1, 1) := by decide +kernel
theorem dL_draws_132 : decode cL_draws 132 = .ok (.iload_n 2, 1) := by decide +kernel
theorem dL_draws_133 : decode cL_draws 133 = .ok (.invokevirtual 51, 3) := by decide +kernel
theorem dL_draws_136 : decode cL_draws 136 = .ok (.istore 10, 2) := by decide +kernel
theorem dL_draws_138 : decode cL_draws 138 = .ok (.aload_n 0, 1) := by decide +kernel
theorem dL_draws_139 : decode cL_draws 139 = .ok (.bipush 10, 2) := by decide +kernel
theorem dL_draws_141 : decode cL_draws 141 = .ok (.invokevirtual 10, 3) := by decide +kernel
theorem dL_draws_144 : decode cL_draws 144 = .ok (.iload 8, 2) := by decide +kernel
theorem dL_draws_146 : decode cL_draws 146 = .ok (.isub, 1) := by decide +kernel
theorem dL_draws_147 : decode cL_draws 147 = .ok (.istore 11, 2) := by decide +kernel
theorem dL_draws_149 : decode cL_draws 149 = .ok (.iload 10, 2) := by decide +kernel
theorem dL_draws_151 : decode cL_draws 151 = .ok (.iload 4, 2) := by decide +kernel
theorem dL_draws_153 : decode cL_draws 153 = .ok (.iload 11, 2) := by decide +kernel
theorem dL_draws_155 : decode cL_draws 155 = .ok (.iadd, 1) := by decide +kernel
theorem dL_draws_156 : decode cL_draws 156 = .ok (.iload 9, 2) := by decide +kernel
theorem dL_draws_158 : decode cL_draws 158 = .ok (.iadd, 1) := by decide +kernel
theorem dL_draws_159 : decode cL_draws 159 = .ok (.if_icmp .ne 163, 3) := by decide +kernel
theorem dL_draws_162 : decode cL_draws 162 = .ok (.aload_n 0, 1) := by decide +kernel
theorem dL_draws_163 : decode cL_draws 163 = .ok (.iconst 4, 1) := by decide +kernel
theorem dL_draws_164 : decode cL_draws 164 = .ok (.invokevirtual 10, 3) := by decide +kernel
theorem dL_draws_167 : decode cL_draws 167 = .ok (.iload 10, 2) := by decide +kernel
theorem dL_draws_169 : decode cL_draws 169 = .ok (.if_icmp .ne 153, 3) := by decide +kernel
theorem dL_draws_172 : decode cL_draws 172 = .ok (.aload_n 0, 1) := by decide +kernel
theorem dL_draws_173 : decode cL_draws 173 = .ok (.iload 5, 2) := by decide +kernel
theorem dL_draws_175 : decode cL_draws 175 = .ok (.iconst 2, 1) := by decide +kernel
theorem dL_draws_176 : decode cL_draws 176 = .ok (.invokevirtual 16, 3) := by decide +kernel
theorem dL_draws_179 : decode cL_draws 179 = .ok (.iload 6, 2) := by decide +kernel
theorem dL_draws_181 : decode cL_draws 181 = .ok (.iconst 1, 1) := by decide +kernel
theorem dL_draws_182 : decode cL_draws 182 = .ok (.aload_n 0, 1) := by decide +kernel
theorem dL_draws_183 : decode cL_draws 183 = .ok (.iload 5, 2) := by decide +kernel
theorem dL_draws_185 : decode cL_draws 185 = .ok (.iconst 0, 1) := by decide +kernel
theorem dL_draws_186 : decode cL_draws 186 = .ok (.invokevirtual 16, 3) := by decide +kernel
theorem dL_draws_189 : decode cL_draws 189 = .ok (.iadd, 1) := by decide +kernel
theorem dL_draws_190 : decode cL_draws 190 = .ok (.iload 9, 2) := by decide +kernel
theorem dL_draws_192 : decode cL_draws 192 = .ok (.imul, 1) := by decide +kernel
theorem dL_draws_193 : decode cL_draws 193 = .ok (.isub, 1) := by decide +kernel
theorem dL_draws_194 : decode cL_draws 194 = .ok (.if_icmp .ne 128, 3) := by decide +kernel
theorem dL_draws_197 : decode cL_draws 197 = .ok (.aload_n 0, 1) := by decide +kernel
theorem dL_draws_198 : decode cL_draws 198 = .ok (.iload 5, 2) := by decide +kernel
theorem dL_draws_200 : decode cL_draws 200 = .ok (.iconst 3, 1) := by decide +kernel
theorem dL_draws_201 : decode cL_draws 201 = .ok (.invokevirtual 16, 3) := by decide +kernel
theorem dL_draws_204 : decode cL_draws 204 = .ok (.iload 7, 2) := by decide +kernel
theorem dL_draws_206 : decode cL_draws 206 = .ok (.iload 9, 2) := by decide +kernel
theorem dL_draws_208 : decode cL_draws 208 = .ok (.iadd, 1) := by decide +kernel
theorem dL_draws_209 : decode cL_draws 209 = .ok (.if_icmp .ne 113, 3) := by decide +kernel
theorem dL_draws_212 : decode cL_draws 212 = .ok (.aload_n 0, 1) := by decide +kernel
theorem dL_draws_213 : decode cL_draws 213 = .ok (.iload 5, 2) := by decide +kernel
theorem dL_draws_215 : decode cL_draws 215 = .ok (.iconst 4, 1) := by decide +kernel
theorem dL_draws_216 : decode cL_draws 216 = .ok (.invokevirtual 16, 3) := by decide +kernel
theorem dL_draws_219 : decode cL_draws 219 = .ok (.ifCond .ne 103, 3) := by decide +kernel
theorem dL_draws_222 : decode cL_draws 222 = .ok (.aload_n 0, 1) := by decide +kernel
theorem dL_draws_223 : decode cL_draws 223 = .ok (.iload_n 1, 1) := by decide +kernel
theorem dL_draws_224 : decode cL_draws 224 = .ok (.bipush 6, 2) := by decide +kernel
theorem dL_draws_226 : decode cL_draws 226 = .ok (.invokevirtual 32, 3) := by decide +kernel
theorem dL_draws_229 : decode cL_draws 229 = .ok (.iload 5, 2) := by decide +kernel
theorem dL_draws_231 : decode cL_draws 231 = .ok (.if_icmp .ne 91, 3) := by decide +kernel
theorem dL_draws_234 : decode cL_draws 234 = .ok (.aload_n 0, 1) := by decide +kernel
theorem dL_draws_235 : decode cL_draws 235 = .ok (.iload_n 1, 1) := by decide +kernel
theorem dL_draws_236 : decode cL_draws 236 = .ok (.bipush 7, 2) := by decide +kernel
theorem dL_draws_238 : decode cL_draws 238 = .ok (.invokevirtual 32, 3) := by decide +kernel
theorem dL_draws_241 : decode cL_draws 241 = .ok (.iload 10, 2) := by decide +kernel
theorem dL_draws_243 : decode cL_draws 243 = .ok (.if_icmp .ne 79, 3) := by decide +kernel
theorem dL_draws_246 : decode cL_draws 246 = .ok (.aload_n 0, 1) := by decide +kernel
theorem dL_draws_247 : decode cL_draws 247 = .ok (.iload_n 1, 1) := by decide +kernel
theorem dL_draws_248 : decode cL_draws 248 = .ok (.bipush 8, 2) := by decide +kernel
theorem dL_draws_250 : decode cL_draws 250 = .ok (.invokevirtual 32, 3) := by decide +kernel
theorem dL_draws_253 : decode cL_draws 253 = .ok (.aload_n 0, 1) := by decide +kernel
theorem dL_draws_254 : decode cL_draws 254 = .ok (.bipush 22, 2) := by decide +kernel
theorem dL_draws_256 : decode cL_draws 256 = .ok (.invokevirtual 10, 3) := by decide +kernel
theorem dL_draws_259 : decode cL_draws 259 = .ok (.ifCond .le 7, 3) := by decide +kernel
theorem dL_draws_262 : decode cL_draws 262 = .ok (.iconst 1, 1) := by decide +kernel
theorem dL_draws_263 : decode cL_draws 263 = .ok (.goto 4, 3) := by decide +kernel
theorem dL_draws_266 : decode cL_draws 266 = .ok (.iconst 0, 1) := by decide +kernel
theorem dL_draws_267 : decode cL_draws 267 = .ok (.if_icmp .ne 55, 3) := by decide +kernel
theorem dL_draws_270 : decode cL_draws 270 = .ok (.aload_n 0, 1) := by decide +kernel
theorem dL_draws_271 : decode cL_draws 271 = .ok (.bipush 6, 2) := by decide +kernel
theorem dL_draws_273 : decode cL_draws 273 = .ok (.invokevirtual 10, 3) := by decide +kernel
theorem dL_draws_276 : decode cL_draws 276 = .ok (.aload_n 0, 1) := by decide +kernel
theorem dL_draws_277 : decode cL_draws 277 = .ok (.iload_n 1, 1) := by decide +kernel
theorem dL_draws_278 : decode cL_draws 278 = .ok (.iconst 2, 1) := by decide +kernel
theorem dL_draws_279 : decode cL_draws 279 = .ok (.iconst 2, 1) := by decide +kernel
theorem dL_draws_280 : decode cL_draws 280 = .ok (.iload_n 2, 1) := by decide +kernel
theorem dL_draws_281 : decode cL_draws 281 = .ok (.imul, 1) := by decide +kernel
theorem dL_draws_282 : decode cL_draws 282 = .ok (.isub, 1) := by decide +kernel
theorem dL_draws_283 : decode cL_draws 283 = .ok (.invokevirtual 32, 3) := by decide +kernel
theorem dL_draws_286 : decode cL_draws 286 = .ok (.if_icmp .ne 36, 3) := by decide +kernel
theorem dL_draws_289 : decode cL_draws 289 = .ok (.aload_n 0, 1) := by decide +kernel
theorem dL_draws_290 : decode cL_draws 290 = .ok (.bipush 7, 2) := by decide +kernel
theorem dL_draws_292 : decode cL_draws 292 = .ok (.invokevirtual 10, 3) := by decide +kernel
theorem dL_draws_295 : decode cL_draws 295 = .ok (.aload_n 0, 1) := by decide +kernel
theorem dL_draws_296 : decode cL_draws 296 = .ok (.iload_n 1, 1) := by decide +kernel
theorem dL_draws_297 : decode cL_draws 297 = .ok (.iconst 3, 1) := by decide +kernel
theorem dL_draws_298 : decode cL_draws 298 = .ok (.iconst 2, 1) := by decide +kernel
theorem dL_draws_299 : decode cL_draws 299 = .ok (.iload_n 2, 1) := by decide +kernel
theorem dL_draws_300 : decode cL_draws 300 = .ok (.imul, 1) := by decide +kernel
theorem dL_draws_301 : decode cL_draws 301 = .ok (.isub, 1) := by decide +kernel
theorem dL_draws_302 : decode cL_draws 302 = .ok (.invokevirtual 32, 3) := by decide +kernel
theorem dL_draws_305 : decode cL_draws 305 = .ok (.if_icmp .ne 17, 3) := by decide +kernel
theorem dL_draws_308 : decode cL_draws 308 = .ok (.aload_n 0, 1) := by decide +kernel
theorem dL_draws_309 : decode cL_draws 309 = .ok (.iload_n 1, 1) := by decide +kernel
theorem dL_draws_310 : decode cL_draws 310 = .ok (.iload_n 2, 1) := by decide +kernel
theorem dL_draws_311 : decode cL_draws 311 = .ok (.invokevirtual 48, 3) := by decide +kernel
theorem dL_draws_314 : decode cL_draws 314 = .ok (.iconst 2, 1) := by decide +kernel
theorem dL_draws_315 : decode cL_draws 315 = .ok (.if_icmp .ne 7, 3) := by decide +kernel
theorem dL_draws_318 : decode cL_draws 318 = .ok (.iconst 1, 1) := by decide +kernel
theorem dL_draws_319 : decode cL_draws 319 = .ok (.goto 4, 3) := by decide +kernel
theorem dL_draws_322 : decode cL_draws 322 = .ok (.iconst 0, 1) := by decide +kernel
theorem dL_draws_323 : decode cL_draws 323 = .ok (.ireturn, 1) := by decide +kernel
theorem dL_acts_0 : decode cL_acts 0 = .ok (.iload_n 1, 1) := by decide +kernel
theorem dL_acts_1 : decode cL_acts 1 = .ok (.bipush 8, 2) := by decide +kernel
theorem dL_acts_3 : decode cL_acts 3 = .ok (.idiv, 1) := by decide +kernel
theorem dL_acts_4 : decode cL_acts 4 = .ok (.istore_n 2, 1) := by decide +kernel
theorem dL_acts_5 : decode cL_acts 5 = .ok (.iload_n 2, 1) := by decide +kernel
theorem dL_acts_6 : decode cL_acts 6 = .ok (.iconst 3, 1) := by decide +kernel
theorem dL_acts_7 : decode cL_acts 7 = .ok (.irem, 1) := by decide +kernel
theorem dL_acts_8 : decode cL_acts 8 = .ok (.istore_n 3, 1) := by decide +kernel
theorem dL_acts_9 : decode cL_acts 9 = .ok (.iload_n 2, 1) := by decide +kernel
theorem dL_acts_10 : decode cL_acts 10 = .ok (.iconst 4, 1) := by decide +kernel
theorem dL_acts_11 : decode cL_acts 11 = .ok (.idiv, 1) := by decide +kernel
theorem dL_acts_12 : decode cL_acts 12 = .ok (.bipush 8, 2) := by decide +kernel
theorem dL_acts_14 : decode cL_acts 14 = .ok (.irem, 1) := by decide +kernel
theorem dL_acts_15 : decode cL_acts 15 = .ok (.istore 4, 2) := by decide +kernel
theorem dL_acts_17 : decode cL_acts 17 = .ok (.aload_n 0, 1) := by decide +kernel
theorem dL_acts_18 : decode cL_acts 18 = .ok (.iconst 4, 1) := by decide +kernel
theorem dL_acts_19 : decode cL_acts 19 = .ok (.invokevirtual 10, 3) := by decide +kernel
theorem dL_acts_22 : decode cL_acts 22 = .ok (.istore 5, 2) := by decide +kernel
theorem dL_acts_24 : decode cL_acts 24 = .ok (.iload_n 1, 1) := by decide +kernel
theorem dL_acts_25 : decode cL_acts 25 = .ok (.bipush 8, 2) := by decide +kernel
theorem dL_acts_27 : decode cL_acts 27 = .ok (.irem, 1) := by decide +kernel
theorem dL_acts_28 : decode cL_acts 28 = .ok (.tableswitch 432 0 5 #[40, 131, 193, 249, 331, 404], 40) := by decide +kernel
theorem dL_acts_68 : decode cL_acts 68 = .ok (.aload_n 0, 1) := by decide +kernel
theorem dL_acts_69 : decode cL_acts 69 = .ok (.bipush 9, 2) := by decide +kernel
theorem dL_acts_71 : decode cL_acts 71 = .ok (.invokevirtual 10, 3) := by decide +kernel
theorem dL_acts_74 : decode cL_acts 74 = .ok (.istore 6, 2) := by decide +kernel
theorem dL_acts_76 : decode cL_acts 76 = .ok (.aload_n 0, 1) := by decide +kernel
theorem dL_acts_77 : decode cL_acts 77 = .ok (.iload_n 3, 1) := by decide +kernel
theorem dL_acts_78 : decode cL_acts 78 = .ok (.invokevirtual 54, 3) := by decide +kernel
theorem dL_acts_81 : decode cL_acts 81 = .ok (.istore 7, 2) := by decide +kernel
theorem dL_acts_83 : decode cL_acts 83 = .ok (.iload 7, 2) := by decide +kernel
theorem dL_acts_85 : decode cL_acts 85 = .ok (.ifCond .lt 50, 3) := by decide +kernel
theorem dL_acts_88 : decode cL_acts 88 = .ok (.aload_n 0, 1) := by decide +kernel
theorem dL_acts_89 : decode cL_acts 89 = .ok (.iconst 5, 1) := by decide +kernel
theorem dL_acts_90 : decode cL_acts 90 = .ok (.invokevirtual 10, 3) := by decide +kernel
theorem dL_acts_93 : decode cL_acts 93 = .ok (.iload_n 3, 1) := by decide +kernel
theorem dL_acts_94 : decode cL_acts 94 = .ok (.if_icmp .ne 37, 3) := by decide +kernel
theorem dL_acts_97 : decode cL_acts 97 = .ok (.aload_n 0, 1) := by decide +kernel
theorem dL_acts_98 : decode cL_acts 98 = .ok (.bipush 9, 2) := by decide +kernel
theorem dL_acts_100 : decode cL_acts 100 = .ok (.invokevirtual 10, 3) := by decide +kernel
theorem dL_acts_103 : decode cL_acts 103 = .ok (.iload 6, 2) := by decide +kernel
theorem dL_acts_105 : decode cL_acts 105 = .ok (.iconst 1, 1) := by decide +kernel
theorem dL_acts_106 : decode cL_acts 106 = .ok (.iadd, 1) := by decide +kernel
theorem dL_acts_107 : decode cL_acts 107 = .ok (.if_icmp .ne 24, 3) := by decide +kernel
theorem dL_acts_110 : decode cL_acts 110 = .ok (.aload_n 0, 1) := by decide +kernel
theorem dL_acts_111 : decode cL_acts 111 = .ok (.iconst 4, 1) := by decide +kernel
theorem dL_acts_112 : decode cL_acts 112 = .ok (.invokevirtual 10, 3) := by decide +kernel
theorem dL_acts_115 : decode cL_acts 115 = .ok (.iload 5, 2) := by decide +kernel
theorem dL_acts_117 : decode cL_acts 117 = .ok (.aload_n 0, 1) := by decide +kernel
theorem dL_acts_118 : decode cL_acts 118 = .ok (.bipush 23, 2) := by decide +kernel
theorem dL_acts_120 : decode cL_acts 120 = .ok (.invokevirtual 10, 3) := by decide +kernel
theorem dL_acts_123 : decode cL_acts 123 = .ok (.iadd, 1) := by decide +kernel
theorem dL_acts_124 : decode cL_acts 124 = .ok (.if_icmp .ne 7, 3) := by decide +kernel
theorem dL_acts_127 : decode cL_acts 127 = .ok (.iconst 1, 1) := by decide +kernel
theorem dL_acts_128 : decode cL_acts 128 = .ok (.goto 30, 3) := by decide +kernel
theorem dL_acts_131 : decode cL_acts 131 = .ok (.iconst 0, 1) := by decide +kernel
theorem dL_acts_132 : decode cL_acts 132 = .ok (.goto 26, 3) := by decide +kernel
theorem dL_acts_135 : decode cL_acts 135 = .ok (.iload 7, 2) := by decide +kernel
theorem dL_acts_137 : decode cL_acts 137 = .ok (.ldc 24, 2) := by decide +kernel
theorem dL_acts_139 : decode cL_acts 139 = .ok (.if_icmp .ne 18, 3) := by decide +kernel
theorem dL_acts_142 : decode cL_acts 142 = .ok (.aload_n 0, 1) := by decide +kernel
theorem dL_acts_143 : decode cL_acts 143 = .ok (.bipush 9, 2) := by decide +kernel
theorem dL_acts_145 : decode cL_acts 145 = .ok (.invokevirtual 10, 3) := by decide +kernel
theorem dL_acts_148 : decode cL_acts 148 = .ok (.iload 6, 2) := by decide +kernel
theorem dL_acts_150 : decode cL_acts 150 = .ok (.if_icmp .ne 7, 3) := by decide +kernel
theorem dL_acts_153 : decode cL_acts 153 = .ok (.iconst 1, 1) := by decide +kernel
theorem dL_acts_154 : decode cL_acts 154 = .ok (.goto 4, 3) := by decide +kernel
theorem dL_acts_157 : decode cL_acts 157 = .ok (.iconst 0, 1) := by decide +kernel
theorem dL_acts_158 : decode cL_acts 158 = .ok (.ireturn, 1) := by decide +kernel
theorem dL_acts_159 : decode cL_acts 159 = .ok (.aload_n 0, 1) := by decide +kernel
theorem dL_acts_160 : decode cL_acts 160 = .ok (.iload_n 3, 1) := by decide +kernel
theorem dL_acts_161 : decode cL_acts 161 = .ok (.bipush 7, 2) := by decide +kernel
theorem dL_acts_163 : decode cL_acts 163 = .ok (.invokevirtual 16, 3) := by decide +kernel
theorem dL_acts_166 : decode cL_acts 166 = .ok (.istore 8, 2) := by decide +kernel
theorem dL_acts_168 : decode cL_acts 168 = .ok (.aload_n 0, 1) := by decide +kernel
theorem dL_acts_169 : decode cL_acts 169 = .ok (.iload_n 3, 1) := by decide +kernel
theorem dL_acts_170 : decode cL_acts 170 = .ok (.iconst 1, 1) := by decide +kernel
theorem dL_acts_171 : decode cL_acts 171 = .ok (.iload 8, 2) := by decide +kernel
theorem dL_acts_173 : decode cL_acts 173 = .ok (.isub, 1) := by decide +kernel
theorem dL_acts_174 : decode cL_acts 174 = .ok (.invokevirtual 57, 3) := by decide +kernel
theorem dL_acts_177 : decode cL_acts 177 = .ok (.istore 9, 2) := by decide +kernel
theorem dL_acts_179 : decode cL_acts 179 = .ok (.iload 9, 2) := by decide +kernel
theorem dL_acts_181 : decode cL_acts 181 = .ok (.ifCond .lt 25, 3) := by decide +kernel
theorem dL_acts_184 : decode cL_acts 184 = .ok (.aload_n 0, 1) := by decide +kernel
theorem dL_acts_185 : decode cL_acts 185 = .ok (.iload_n 3, 1) := by decide +kernel
theorem dL_acts_186 : decode cL_acts 186 = .ok (.bipush 7, 2) := by decide +kernel
theorem dL_acts_188 : decode cL_acts 188 = .ok (.invokevirtual 16, 3) := by decide +kernel
theorem dL_acts_191 : decode cL_acts 191 = .ok (.iconst 1, 1) := by decide +kernel
theorem dL_acts_192 : decode cL_acts 192 = .ok (.iload 8, 2) := by decide +kernel
theorem dL_acts_194 : decode cL_acts 194 = .ok (.isub, 1) := by decide +kernel
theorem dL_acts_195 : decode cL_acts 195 = .ok (.if_icmp .ne 7, 3) := by decide +kernel
theorem dL_acts_198 : decode cL_acts 198 = .ok (.iconst 1, 1) := by decide +kernel
theorem dL_acts_199 : decode cL_acts 199 = .ok (.goto 21, 3) := by decide +kernel
theorem dL_acts_202 : decode cL_acts 202 = .ok (.iconst 0, 1) := by decide +kernel
theorem dL_acts_203 : decode cL_acts 203 = .ok (.goto 17, 3) := by decide +kernel
theorem dL_acts_206 : decode cL_acts 206 = .ok (.aload_n 0, 1) := by decide +kernel
theorem dL_acts_207 : decode cL_acts 207 = .ok (.iconst 5, 1) := by decide +kernel
theorem dL_acts_208 : decode cL_acts 208 = .ok (.invokevirtual 10, 3) := by decide +kernel
theorem dL_acts_211 : decode cL_acts 211 = .ok (.iload_n 3, 1) := by decide +kernel
theorem dL_acts_212 : decode cL_acts 212 = .ok (.if_icmp .ne 7, 3) := by decide +kernel
theorem dL_acts_215 : decode cL_acts 215 = .ok (.iconst 1, 1) := by decide +kernel
theorem dL_acts_216 : decode cL_acts 216 = .ok (.goto 4, 3) := by decide +kernel
theorem dL_acts_219 : decode cL_acts 219 = .ok (.iconst 0, 1) := by decide +kernel
theorem dL_acts_220 : decode cL_acts 220 = .ok (.ireturn, 1) := by decide +kernel
theorem dL_acts_221 : decode cL_acts 221 = .ok (.aload_n 0, 1) := by decide +kernel
theorem dL_acts_222 : decode cL_acts 222 = .ok (.iload_n 3, 1) := by decide +kernel
theorem dL_acts_223 : decode cL_acts 223 = .ok (.iconst 1, 1) := by decide +kernel
theorem dL_acts_224 : decode cL_acts 224 = .ok (.invokevirtual 16, 3) := by decide +kernel
theorem dL_acts_227 : decode cL_acts 227 = .ok (.aload_n 0, 1) := by decide +kernel
theorem dL_acts_228 : decode cL_acts 228 = .ok (.iload_n 3, 1) := by decide +kernel
theorem dL_acts_229 : decode cL_acts 229 = .ok (.iconst 2, 1) := by decide +kernel
theorem dL_acts_230 : decode cL_acts 230 = .ok (.invokevirtual 16, 3) := by decide +kernel
theorem dL_acts_233 : decode cL_acts 233 = .ok (.isub, 1) := by decide +kernel
theorem dL_acts_234 : decode cL_acts 234 = .ok (.istore 10, 2) := by decide +kernel
theorem dL_acts_236 : decode cL_acts 236 = .ok (.aload_n 0, 1) := by decide +kernel
theorem dL_acts_237 : decode cL_acts 237 = .ok (.iload_n 3, 1) := by decide +kernel
theorem dL_acts_238 : decode cL_acts 238 = .ok (.invokevirtual 60, 3) := by decide +kernel
theorem dL_acts_241 : decode cL_acts 241 = .ok (.iload 10, 2) := by decide +kernel
theorem dL_acts_243 : decode cL_acts 243 = .ok (.ifCond .ne 8, 3) := by decide +kernel
theorem dL_acts_246 : decode cL_acts 246 = .ok (.ldc 24, 2) := by decide +kernel
theorem dL_acts_248 : decode cL_acts 248 = .ok (.goto 5, 3) := by decide +kernel
theorem dL_acts_251 : decode cL_acts 251 = .ok (.iload 10, 2) := by decide +kernel
theorem dL_acts_253 : decode cL_acts 253 = .ok (.if_icmp .ne 22, 3) := by decide +kernel
theorem dL_acts_256 : decode cL_acts 256 = .ok (.aload_n 0, 1) := by decide +kernel
theorem dL_acts_257 : decode cL_acts 257 = .ok (.iload_n 3, 1) := by decide +kernel
theorem dL_acts_258 : decode cL_acts 258 = .ok (.iconst 2, 1) := by decide +kernel
theorem dL_acts_259 : decode cL_acts 259 = .ok (.invokevirtual 16, 3) := by decide +kernel
theorem dL_acts_262 : decode cL_acts 262 = .ok (.aload_n 0, 1) := by decide +kernel
theorem dL_acts_263 : decode cL_acts 263 = .ok (.iload_n 3, 1) := by decide +kernel
theorem dL_acts_264 : decode cL_acts 264 = .ok (.iconst 1, 1) := by decide +kernel
theorem dL_acts_265 : decode cL_acts 265 = .ok (.invokevirtual 16, 3) := by decide +kernel
theorem dL_acts_268 : decode cL_acts 268 = .ok (.if_icmp .ne 7, 3) := by decide +kernel
theorem dL_acts_271 : decode cL_acts 271 = .ok (.iconst 1, 1) := by decide +kernel
theorem dL_acts_272 : decode cL_acts 272 = .ok (.goto 4, 3) := by decide +kernel
theorem dL_acts_275 : decode cL_acts 275 = .ok (.iconst 0, 1) := by decide +kernel
theorem dL_acts_276 : decode cL_acts 276 = .ok (.ireturn, 1) := by decide +kernel
theorem dL_acts_277 : decode cL_acts 277 = .ok (.aload_n 0, 1) := by decide +kernel
theorem dL_acts_278 : decode cL_acts 278 = .ok (.iload 4, 2) := by decide +kernel
theorem dL_acts_280 : decode cL_acts 280 = .ok (.bipush 6, 2) := by decide +kernel
theorem dL_acts_282 : decode cL_acts 282 = .ok (.invokevirtual 32, 3) := by decide +kernel
theorem dL_acts_285 : decode cL_acts 285 = .ok (.istore 11, 2) := by decide +kernel
theorem dL_acts_287 : decode cL_acts 287 = .ok (.iload 11, 2) := by decide +kernel
theorem dL_acts_289 : decode cL_acts 289 = .ok (.ifCond .ge 7, 3) := by decide +kernel
theorem dL_acts_292 : decode cL_acts 292 = .ok (.iconst 0, 1) := by decide +kernel
theorem dL_acts_293 : decode cL_acts 293 = .ok (.goto 10, 3) := by decide +kernel
theorem dL_acts_296 : decode cL_acts 296 = .ok (.aload_n 0, 1) := by decide +kernel
theorem dL_acts_297 : decode cL_acts 297 = .ok (.iload 11, 2) := by decide +kernel
theorem dL_acts_299 : decode cL_acts 299 = .ok (.iconst 2, 1) := by decide +kernel
theorem dL_acts_300 : decode cL_acts 300 = .ok (.invokevirtual 16, 3) := by decide +kernel
theorem dL_acts_303 : decode cL_acts 303 = .ok (.istore 12, 2) := by decide +kernel
theorem dL_acts_305 : decode cL_acts 305 = .ok (.aload_n 0, 1) := by decide +kernel
theorem dL_acts_306 : decode cL_acts 306 = .ok (.iload 4, 2) := by decide +kernel
theorem dL_acts_308 : decode cL_acts 308 = .ok (.invokevirtual 63, 3) := by decide +kernel
theorem dL_acts_311 : decode cL_acts 311 = .ok (.iload 11, 2) := by decide +kernel
theorem dL_acts_313 : decode cL_acts 313 = .ok (.ifCond .ge 8, 3) := by decide +kernel
theorem dL_acts_316 : decode cL_acts 316 = .ok (.ldc 24, 2) := by decide +kernel
theorem dL_acts_318 : decode cL_acts 318 = .ok (.goto 5, 3) := by decide +kernel
theorem dL_acts_321 : decode cL_acts 321 = .ok (.iload 11, 2) := by decide +kernel
theorem dL_acts_323 : decode cL_acts 323 = .ok (.if_icmp .ne 34, 3) := by decide +kernel
theorem dL_acts_326 : decode cL_acts 326 = .ok (.aload_n 0, 1) := by decide +kernel
theorem dL_acts_327 : decode cL_acts 327 = .ok (.iload 4, 2) := by decide +kernel
theorem dL_acts_329 : decode cL_acts 329 = .ok (.iconst 5, 1) := by decide +kernel
theorem dL_acts_330 : decode cL_acts 330 = .ok (.invokevirtual 32, 3) := by decide +kernel
theorem dL_acts_333 : decode cL_acts 333 = .ok (.ifCond .ne 24, 3) := by decide +kernel
theorem dL_acts_336 : decode cL_acts 336 = .ok (.iload 11, 2) := by decide +kernel
theorem dL_acts_338 : decode cL_acts 338 = .ok (.ifCond .lt 15, 3) := by decide +kernel
theorem dL_acts_341 : decode cL_acts 341 = .ok (.aload_n 0, 1) := by decide +kernel
theorem dL_acts_342 : decode cL_acts 342 = .ok (.iload 11, 2) := by decide +kernel
theorem dL_acts_344 : decode cL_acts 344 = .ok (.iconst 2, 1) := by decide +kernel
theorem dL_acts_345 : decode cL_acts 345 = .ok (.invokevirtual 16, 3) := by decide +kernel
theorem dL_acts_348 : decode cL_acts 348 = .ok (.iload 12, 2) := by decide +kernel
theorem dL_acts_350 : decode cL_acts 350 = .ok (.if_icmp .ne 7, 3) := by decide +kernel
theorem dL_acts_353 : decode cL_acts 353 = .ok (.iconst 1, 1) := by decide +kernel
theorem dL_acts_354 : decode cL_acts 354 = .ok (.goto 4, 3) := by decide +kernel
theorem dL_acts_357 : decode cL_acts 357 = .ok (.iconst 0, 1) := by decide +kernel
theorem dL_acts_358 : decode cL_acts 358 = .ok (.ireturn, 1) := by decide +kernel
theorem dL_acts_359 : decode cL_acts 359 = .ok (.aload_n 0, 1) := by decide +kernel
theorem dL_acts_360 : decode cL_acts 360 = .ok (.iconst 5, 1) := by decide +kernel
theorem dL_acts_361 : decode cL_acts 361 = .ok (.invokevirtual 10, 3) := by decide +kernel
theorem dL_acts_364 : decode cL_acts 364 = .ok (.istore 13, 2) := by decide +kernel
theorem dL_acts_366 : decode cL_acts 366 = .ok (.iload 13, 2) := by decide +kernel
theorem dL_acts_368 : decode cL_acts 368 = .ok (.ifCond .ge 8, 3) := by decide +kernel
theorem dL_acts_371 : decode cL_acts 371 = .ok (.ldc 24, 2) := by decide +kernel
theorem dL_acts_373 : decode cL_acts 373 = .ok (.goto 10, 3) := by decide +kernel
theorem dL_acts_376 : decode cL_acts 376 = .ok (.aload_n 0, 1) := by decide +kernel
theorem dL_acts_377 : decode cL_acts 377 = .ok (.iload 13, 2) := by decide +kernel
theorem dL_acts_379 : decode cL_acts 379 = .ok (.iconst 4, 1) := by decide +kernel
theorem dL_acts_380 : decode cL_acts 380 = .ok (.invokevirtual 16, 3) := by decide +kernel
theorem dL_acts_383 : decode cL_acts 383 = .ok (.istore 14, 2) := by decide +kernel
theorem dL_acts_385 : decode cL_acts 385 = .ok (.aload_n 0, 1) := by decide +kernel
theorem dL_acts_386 : decode cL_acts 386 = .ok (.invokevirtual 66, 3) := by decide +kernel
theorem dL_acts_389 : decode cL_acts 389 = .ok (.iload 14, 2) := by decide +kernel
theorem dL_acts_391 : decode cL_acts 391 = .ok (.if_icmp .ne 39, 3) := by decide +kernel
theorem dL_acts_394 : decode cL_acts 394 = .ok (.iload 13, 2) := by decide +kernel
theorem dL_acts_396 : decode cL_acts 396 = .ok (.ifCond .lt 30, 3) := by decide +kernel
theorem dL_acts_399 : decode cL_acts 399 = .ok (.aload_n 0, 1) := by decide +kernel
theorem dL_acts_400 : decode cL_acts 400 = .ok (.iload 13, 2) := by decide +kernel
theorem dL_acts_402 : decode cL_acts 402 = .ok (.iconst 4, 1) := by decide +kernel
theorem dL_acts_403 : decode cL_acts 403 = .ok (.invokevirtual 16, 3) := by decide +kernel
theorem dL_acts_406 : decode cL_acts 406 = .ok (.ifCond .ne 24, 3) := by decide +kernel
theorem dL_acts_409 : decode cL_acts 409 = .ok (.aload_n 0, 1) := by decide +kernel
theorem dL_acts_410 : decode cL_acts 410 = .ok (.iconst 4, 1) := by decide +kernel
theorem dL_acts_411 : decode cL_acts 411 = .ok (.invokevirtual 10, 3) := by decide +kernel
theorem dL_acts_414 : decode cL_acts 414 = .ok (.iload 5, 2) := by decide +kernel
theorem dL_acts_416 : decode cL_acts 416 = .ok (.aload_n 0, 1) := by decide +kernel
theorem dL_acts_417 : decode cL_acts 417 = .ok (.bipush 24, 2) := by decide +kernel
theorem dL_acts_419 : decode cL_acts 419 = .ok (.invokevirtual 10, 3) := by decide +kernel
theorem dL_acts_422 : decode cL_acts 422 = .ok (.iadd, 1) := by decide +kernel
theorem dL_acts_423 : decode cL_acts 423 = .ok (.if_icmp .ne 7, 3) := by decide +kernel
theorem dL_acts_426 : decode cL_acts 426 = .ok (.iconst 1, 1) := by decide +kernel
theorem dL_acts_427 : decode cL_acts 427 = .ok (.goto 4, 3) := by decide +kernel
theorem dL_acts_430 : decode cL_acts 430 = .ok (.iconst 0, 1) := by decide +kernel
theorem dL_acts_431 : decode cL_acts 431 = .ok (.ireturn, 1) := by decide +kernel
theorem dL_acts_432 : decode cL_acts 432 = .ok (.aload_n 0, 1) := by decide +kernel
theorem dL_acts_433 : decode cL_acts 433 = .ok (.iconst 1, 1) := by decide +kernel
theorem dL_acts_434 : decode cL_acts 434 = .ok (.iload_n 2, 1) := by decide +kernel
theorem dL_acts_435 : decode cL_acts 435 = .ok (.bipush 20, 2) := by decide +kernel
theorem dL_acts_437 : decode cL_acts 437 = .ok (.irem, 1) := by decide +kernel
theorem dL_acts_438 : decode cL_acts 438 = .ok (.iadd, 1) := by decide +kernel
theorem dL_acts_439 : decode cL_acts 439 = .ok (.invokevirtual 69, 3) := by decide +kernel
theorem dL_acts_442 : decode cL_acts 442 = .ok (.iload 5, 2) := by decide +kernel
theorem dL_acts_444 : decode cL_acts 444 = .ok (.iconst 1, 1) := by decide +kernel
theorem dL_acts_445 : decode cL_acts 445 = .ok (.iadd, 1) := by decide +kernel
theorem dL_acts_446 : decode cL_acts 446 = .ok (.iload_n 2, 1) := by decide +kernel
theorem dL_acts_447 : decode cL_acts 447 = .ok (.bipush 20, 2) := by decide +kernel
theorem dL_acts_449 : decode cL_acts 449 = .ok (.irem, 1) := by decide +kernel
theorem dL_acts_450 : decode cL_acts 450 = .ok (.iadd, 1) := by decide +kernel
theorem dL_acts_451 : decode cL_acts 451 = .ok (.if_icmp .ne 7, 3) := by decide +kernel
theorem dL_acts_454 : decode cL_acts 454 = .ok (.iconst 1, 1) := by decide +kernel
theorem dL_acts_455 : decode cL_acts 455 = .ok (.goto 4, 3) := by decide +kernel
theorem dL_acts_458 : decode cL_acts 458 = .ok (.iconst 0, 1) := by decide +kernel
theorem dL_acts_459 : decode cL_acts 459 = .ok (.ireturn, 1) := by decide +kernel
theorem dL_acts_460 : decode cL_acts 460 = .ok (.aload_n 0, 1) := by decide +kernel
theorem dL_acts_461 : decode cL_acts 461 = .ok (.iload 4, 2) := by decide +kernel
theorem dL_acts_463 : decode cL_acts 463 = .ok (.iload_n 2, 1) := by decide +kernel
theorem dL_acts_464 : decode cL_acts 464 = .ok (.bipush 64, 2) := by decide +kernel
theorem dL_acts_466 : decode cL_acts 466 = .ok (.idiv, 1) := by decide +kernel
theorem dL_acts_467 : decode cL_acts 467 = .ok (.iconst 2, 1) := by decide +kernel
theorem dL_acts_468 : decode cL_acts 468 = .ok (.irem, 1) := by decide +kernel
theorem dL_acts_469 : decode cL_acts 469 = .ok (.invokestatic 72, 3) := by decide +kernel
theorem dL_acts_472 : decode cL_acts 472 = .ok (.ireturn, 1) := by decide +kernel
theorem dL_law_0 : decode cL_law 0 = .ok (.new 11, 3) := by decide +kernel
theorem dL_law_3 : decode cL_law 3 = .ok (.dup, 1) := by decide +kernel
theorem dL_law_4 : decode cL_law 4 = .ok (.invokespecial 78, 3) := by decide +kernel
theorem dL_law_7 : decode cL_law 7 = .ok (.astore_n 1, 1) := by decide +kernel
theorem dL_law_8 : decode cL_law 8 = .ok (.aload_n 1, 1) := by decide +kernel
theorem dL_law_9 : decode cL_law 9 = .ok (.invokestatic 79, 3) := by decide +kernel
theorem dL_law_12 : decode cL_law 12 = .ok (.ifCond .eq 14, 3) := by decide +kernel
theorem dL_law_15 : decode cL_law 15 = .ok (.aload_n 1, 1) := by decide +kernel
theorem dL_law_16 : decode cL_law 16 = .ok (.invokestatic 83, 3) := by decide +kernel
theorem dL_law_19 : decode cL_law 19 = .ok (.ifCond .eq 7, 3) := by decide +kernel
theorem dL_law_22 : decode cL_law 22 = .ok (.iconst 1, 1) := by decide +kernel
theorem dL_law_23 : decode cL_law 23 = .ok (.goto 4, 3) := by decide +kernel
theorem dL_law_26 : decode cL_law 26 = .ok (.iconst 0, 1) := by decide +kernel
theorem dL_law_27 : decode cL_law 27 = .ok (.istore_n 2, 1) := by decide +kernel
theorem dL_law_28 : decode cL_law 28 = .ok (.iconst 0, 1) := by decide +kernel
theorem dL_law_29 : decode cL_law 29 = .ok (.istore_n 3, 1) := by decide +kernel
theorem dL_law_30 : decode cL_law 30 = .ok (.iload_n 3, 1) := by decide +kernel
theorem dL_law_31 : decode cL_law 31 = .ok (.iconst 3, 1) := by decide +kernel
theorem dL_law_32 : decode cL_law 32 = .ok (.if_icmp .ge 60, 3) := by decide +kernel
theorem dL_law_35 : decode cL_law 35 = .ok (.iload_n 2, 1) := by decide +kernel
theorem dL_law_36 : decode cL_law 36 = .ok (.ifCond .eq 56, 3) := by decide +kernel
theorem dL_law_39 : decode cL_law 39 = .ok (.aload_n 1, 1) := by decide +kernel
theorem dL_law_40 : decode cL_law 40 = .ok (.aload_n 0, 1) := by decide +kernel
theorem dL_law_41 : decode cL_law 41 = .ok (.iload_n 3, 1) := by decide +kernel
theorem dL_law_42 : decode cL_law 42 = .ok (.invokestatic 86, 3) := by decide +kernel
theorem dL_law_45 : decode cL_law 45 = .ok (.iconst 2, 1) := by decide +kernel
theorem dL_law_46 : decode cL_law 46 = .ok (.irem, 1) := by decide +kernel
theorem dL_law_47 : decode cL_law 47 = .ok (.bipush 10, 2) := by decide +kernel
theorem dL_law_49 : decode cL_law 49 = .ok (.aload_n 0, 1) := by decide +kernel
theorem dL_law_50 : decode cL_law 50 = .ok (.iconst 3, 1) := by decide +kernel
theorem dL_law_51 : decode cL_law 51 = .ok (.iload_n 3, 1) := by decide +kernel
theorem dL_law_52 : decode cL_law 52 = .ok (.iadd, 1) := by decide +kernel
theorem dL_law_53 : decode cL_law 53 = .ok (.invokestatic 86, 3) := by decide +kernel
theorem dL_law_56 : decode cL_law 56 = .ok (.sipush 400, 3) := by decide +kernel
theorem dL_law_59 : decode cL_law 59 = .ok (.irem, 1) := by decide +kernel
theorem dL_law_60 : decode cL_law 60 = .ok (.iadd, 1) := by decide +kernel
theorem dL_law_61 : decode cL_law 61 = .ok (.iconst 2, 1) := by decide +kernel
theorem dL_law_62 : decode cL_law 62 = .ok (.iload_n 3, 1) := by decide +kernel
theorem dL_law_63 : decode cL_law 63 = .ok (.invokevirtual 90, 3) := by decide +kernel
theorem dL_law_66 : decode cL_law 66 = .ok (.iload_n 3, 1) := by decide +kernel
theorem dL_law_67 : decode cL_law 67 = .ok (.iconst 2, 1) := by decide +kernel
theorem dL_law_68 : decode cL_law 68 = .ok (.if_icmp .ne 8, 3) := by decide +kernel
theorem dL_law_71 : decode cL_law 71 = .ok (.ldc 94, 2) := by decide +kernel
theorem dL_law_73 : decode cL_law 73 = .ok (.goto 4, 3) := by decide +kernel
theorem dL_law_76 : decode cL_law 76 = .ok (.iload_n 3, 1) := by decide +kernel
theorem dL_law_77 : decode cL_law 77 = .ok (.if_icmp .ne 7, 3) := by decide +kernel
theorem dL_law_80 : decode cL_law 80 = .ok (.iconst 1, 1) := by decide +kernel
theorem dL_law_81 : decode cL_law 81 = .ok (.goto 4, 3) := by decide +kernel
theorem dL_law_84 : decode cL_law 84 = .ok (.iconst 0, 1) := by decide +kernel
theorem dL_law_85 : decode cL_law 85 = .ok (.istore_n 2, 1) := by decide +kernel
theorem dL_law_86 : decode cL_law 86 = .ok (.iinc 3 1, 3) := by decide +kernel
theorem dL_law_89 : decode cL_law 89 = .ok (.goto (-59), 3) := by decide +kernel
theorem dL_law_92 : decode cL_law 92 = .ok (.iload_n 2, 1) := by decide +kernel
theorem dL_law_93 : decode cL_law 93 = .ok (.ifCond .eq 44, 3) := by decide +kernel
theorem dL_law_96 : decode cL_law 96 = .ok (.aload_n 1, 1) := by decide +kernel
theorem dL_law_97 : decode cL_law 97 = .ok (.iconst 0, 1) := by decide +kernel
theorem dL_law_98 : decode cL_law 98 = .ok (.bipush 10, 2) := by decide +kernel
theorem dL_law_100 : decode cL_law 100 = .ok (.aload_n 0, 1) := by decide +kernel
theorem dL_law_101 : decode cL_law 101 = .ok (.iconst 5, 1) := by decide +kernel
theorem dL_law_102 : decode cL_law 102 = .ok (.invokestatic 86, 3) := by decide +kernel
theorem dL_law_105 : decode cL_law 105 = .ok (.sipush 400, 3) := by decide +kernel
theorem dL_law_108 : decode cL_law 108 = .ok (.irem, 1) := by decide +kernel
theorem dL_law_109 : decode cL_law 109 = .ok (.iadd, 1) := by decide +kernel
theorem dL_law_110 : decode cL_law 110 = .ok (.iconst 0, 1) := by decide +kernel
theorem dL_law_111 : decode cL_law 111 = .ok (.iconst 1, 1) := by decide +kernel
theorem dL_law_112 : decode cL_law 112 = .ok (.invokevirtual 90, 3) := by decide +kernel
theorem dL_law_115 : decode cL_law 115 = .ok (.iconst 2, 1) := by decide +kernel
theorem dL_law_116 : decode cL_law 116 = .ok (.if_icmp .ne 21, 3) := by decide +kernel
theorem dL_law_119 : decode cL_law 119 = .ok (.aload_n 1, 1) := by decide +kernel
theorem dL_law_120 : decode cL_law 120 = .ok (.iconst 0, 1) := by decide +kernel
theorem dL_law_121 : decode cL_law 121 = .ok (.bipush 50, 2) := by decide +kernel
theorem dL_law_123 : decode cL_law 123 = .ok (.iconst 1, 1) := by decide +kernel
theorem dL_law_124 : decode cL_law 124 = .ok (.iconst 1, 1) := by decide +kernel
theorem dL_law_125 : decode cL_law 125 = .ok (.invokevirtual 90, 3) := by decide +kernel
theorem dL_law_128 : decode cL_law 128 = .ok (.ldc 24, 2) := by decide +kernel
theorem dL_law_130 : decode cL_law 130 = .ok (.if_icmp .ne 7, 3) := by decide +kernel
theorem dL_law_133 : decode cL_law 133 = .ok (.iconst 1, 1) := by decide +kernel
theorem dL_law_134 : decode cL_law 134 = .ok (.goto 4, 3) := by decide +kernel
theorem dL_law_137 : decode cL_law 137 = .ok (.iconst 0, 1) := by decide +kernel
theorem dL_law_138 : decode cL_law 138 = .ok (.istore_n 2, 1) := by decide +kernel
theorem dL_law_139 : decode cL_law 139 = .ok (.iconst 0, 1) := by decide +kernel
theorem dL_law_140 : decode cL_law 140 = .ok (.istore_n 3, 1) := by decide +kernel
theorem dL_law_141 : decode cL_law 141 = .ok (.iload_n 3, 1) := by decide +kernel
theorem dL_law_142 : decode cL_law 142 = .ok (.bipush 8, 2) := by decide +kernel
theorem dL_law_144 : decode cL_law 144 = .ok (.if_icmp .ge 70, 3) := by decide +kernel
theorem dL_law_147 : decode cL_law 147 = .ok (.iload_n 2, 1) := by decide +kernel
theorem dL_law_148 : decode cL_law 148 = .ok (.ifCond .eq 66, 3) := by decide +kernel
theorem dL_law_151 : decode cL_law 151 = .ok (.aload_n 0, 1) := by decide +kernel
theorem dL_law_152 : decode cL_law 152 = .ok (.bipush 6, 2) := by decide +kernel
theorem dL_law_154 : decode cL_law 154 = .ok (.iload_n 3, 1) := by decide +kernel
theorem dL_law_155 : decode cL_law 155 = .ok (.iadd, 1) := by decide +kernel
theorem dL_law_156 : decode cL_law 156 = .ok (.invokestatic 86, 3) := by decide +kernel
theorem dL_law_159 : decode cL_law 159 = .ok (.istore 4, 2) := by decide +kernel
theorem dL_law_161 : decode cL_law 161 = .ok (.aload_n 1, 1) := by decide +kernel
theorem dL_law_162 : decode cL_law 162 = .ok (.iload 4, 2) := by decide +kernel
theorem dL_law_164 : decode cL_law 164 = .ok (.bipush 25, 2) := by decide +kernel
theorem dL_law_166 : decode cL_law 166 = .ok (.irem, 1) := by decide +kernel
theorem dL_law_167 : decode cL_law 167 = .ok (.iload 4, 2) := by decide +kernel
theorem dL_law_169 : decode cL_law 169 = .ok (.bipush 32, 2) := by decide +kernel
theorem dL_law_171 : decode cL_law 171 = .ok (.idiv, 1) := by decide +kernel
theorem dL_law_172 : decode cL_law 172 = .ok (.bipush 25, 2) := by decide +kernel
theorem dL_law_174 : decode cL_law 174 = .ok (.irem, 1) := by decide +kernel
theorem dL_law_175 : decode cL_law 175 = .ok (.bipush 25, 2) := by decide +kernel
theorem dL_law_177 : decode cL_law 177 = .ok (.iload 4, 2) := by decide +kernel
theorem dL_law_179 : decode cL_law 179 = .ok (.sipush 1024, 3) := by decide +kernel
theorem dL_law_182 : decode cL_law 182 = .ok (.idiv, 1) := by decide +kernel
theorem dL_law_183 : decode cL_law 183 = .ok (.bipush 10, 2) := by decide +kernel
theorem dL_law_185 : decode cL_law 185 = .ok (.irem, 1) := by decide +kernel
theorem dL_law_186 : decode cL_law 186 = .ok (.iadd, 1) := by decide +kernel
theorem dL_law_187 : decode cL_law 187 = .ok (.iload 4, 2) := by decide +kernel
theorem dL_law_189 : decode cL_law 189 = .ok (.ldc 95, 2) := by decide +kernel
theorem dL_law_191 : decode cL_law 191 = .ok (.idiv, 1) := by decide +kernel
theorem dL_law_192 : decode cL_law 192 = .ok (.bipush 25, 2) := by decide +kernel
theorem dL_law_194 : decode cL_law 194 = .ok (.irem, 1) := by decide +kernel
theorem dL_law_195 : decode cL_law 195 = .ok (.invokevirtual 96, 3) := by decide +kernel
theorem dL_law_198 : decode cL_law 198 = .ok (.iload_n 3, 1) := by decide +kernel
theorem dL_law_199 : decode cL_law 199 = .ok (.if_icmp .ne 7, 3) := by decide +kernel
theorem dL_law_202 : decode cL_law 202 = .ok (.iconst 1, 1) := by decide +kernel
theorem dL_law_203 : decode cL_law 203 = .ok (.goto 4, 3) := by decide +kernel
theorem dL_law_206 : decode cL_law 206 = .ok (.iconst 0, 1) := by decide +kernel
theorem dL_law_207 : decode cL_law 207 = .ok (.istore_n 2, 1) := by decide +kernel
theorem dL_law_208 : decode cL_law 208 = .ok (.iinc 3 1, 3) := by decide +kernel
theorem dL_law_211 : decode cL_law 211 = .ok (.goto (-70), 3) := by decide +kernel
theorem dL_law_214 : decode cL_law 214 = .ok (.iload_n 2, 1) := by decide +kernel
theorem dL_law_215 : decode cL_law 215 = .ok (.ifCond .eq 64, 3) := by decide +kernel
theorem dL_law_218 : decode cL_law 218 = .ok (.aload_n 1, 1) := by decide +kernel
theorem dL_law_219 : decode cL_law 219 = .ok (.iconst 0, 1) := by decide +kernel
theorem dL_law_220 : decode cL_law 220 = .ok (.aload_n 0, 1) := by decide +kernel
theorem dL_law_221 : decode cL_law 221 = .ok (.bipush 14, 2) := by decide +kernel
theorem dL_law_223 : decode cL_law 223 = .ok (.invokestatic 86, 3) := by decide +kernel
theorem dL_law_226 : decode cL_law 226 = .ok (.sipush 150, 3) := by decide +kernel
theorem dL_law_229 : decode cL_law 229 = .ok (.irem, 1) := by decide +kernel
theorem dL_law_230 : decode cL_law 230 = .ok (.invokevirtual 99, 3) := by decide +kernel
theorem dL_law_233 : decode cL_law 233 = .ok (.bipush 60, 2) := by decide +kernel
theorem dL_law_235 : decode cL_law 235 = .ok (.if_icmp .ne 44, 3) := by decide +kernel
theorem dL_law_238 : decode cL_law 238 = .ok (.aload_n 1, 1) := by decide +kernel
theorem dL_law_239 : decode cL_law 239 = .ok (.iconst 1, 1) := by decide +kernel
theorem dL_law_240 : decode cL_law 240 = .ok (.bipush 10, 2) := by decide +kernel
theorem dL_law_242 : decode cL_law 242 = .ok (.aload_n 0, 1) := by decide +kernel
theorem dL_law_243 : decode cL_law 243 = .ok (.bipush 15, 2) := by decide +kernel
theorem dL_law_245 : decode cL_law 245 = .ok (.invokestatic 86, 3) := by decide +kernel
theorem dL_law_248 : decode cL_law 248 = .ok (.bipush 100, 2) := by decide +kernel
theorem dL_law_250 : decode cL_law 250 = .ok (.irem, 1) := by decide +kernel
theorem dL_law_251 : decode cL_law 251 = .ok (.iadd, 1) := by decide +kernel
theorem dL_law_252 : decode cL_law 252 = .ok (.invokevirtual 99, 3) := by decide +kernel
theorem dL_law_255 : decode cL_law 255 = .ok (.bipush 40, 2) := by decide +kernel
theorem dL_law_257 : decode cL_law 257 = .ok (.if_icmp .ne 22, 3) := by decide +kernel
theorem dL_law_260 : decode cL_law 260 = .ok (.aload_n 1, 1) := by decide +kernel
theorem dL_law_261 : decode cL_law 261 = .ok (.aload_n 0, 1) := by decide +kernel
theorem dL_law_262 : decode cL_law 262 = .ok (.bipush 16, 2) := by decide +kernel
theorem dL_law_264 : decode cL_law 264 = .ok (.invokestatic 86, 3) := by decide +kernel
theorem dL_law_267 : decode cL_law 267 = .ok (.iconst 3, 1) := by decide +kernel
theorem dL_law_268 : decode cL_law 268 = .ok (.irem, 1) := by decide +kernel
theorem dL_law_269 : decode cL_law 269 = .ok (.invokevirtual 54, 3) := by decide +kernel
theorem dL_law_272 : decode cL_law 272 = .ok (.ifCond .ne 7, 3) := by decide +kernel
theorem dL_law_275 : decode cL_law 275 = .ok (.iconst 1, 1) := by decide +kernel
theorem dL_law_276 : decode cL_law 276 = .ok (.goto 4, 3) := by decide +kernel
theorem dL_law_279 : decode cL_law 279 = .ok (.iconst 0, 1) := by decide +kernel
theorem dL_law_280 : decode cL_law 280 = .ok (.istore_n 2, 1) := by decide +kernel
theorem dL_law_281 : decode cL_law 281 = .ok (.iconst 0, 1) := by decide +kernel
theorem dL_law_282 : decode cL_law 282 = .ok (.istore_n 3, 1) := by decide +kernel
theorem dL_law_283 : decode cL_law 283 = .ok (.iload_n 3, 1) := by decide +kernel
theorem dL_law_284 : decode cL_law 284 = .ok (.bipush 34, 2) := by decide +kernel
theorem dL_law_286 : decode cL_law 286 = .ok (.if_icmp .ge 48, 3) := by decide +kernel
theorem dL_law_289 : decode cL_law 289 = .ok (.iload_n 2, 1) := by decide +kernel
theorem dL_law_290 : decode cL_law 290 = .ok (.ifCond .eq 44, 3) := by decide +kernel
theorem dL_law_293 : decode cL_law 293 = .ok (.aload_n 1, 1) := by decide +kernel
theorem dL_law_294 : decode cL_law 294 = .ok (.aload_n 0, 1) := by decide +kernel
theorem dL_law_295 : decode cL_law 295 = .ok (.bipush 17, 2) := by decide +kernel
theorem dL_law_297 : decode cL_law 297 = .ok (.iload_n 3, 1) := by decide +kernel
theorem dL_law_298 : decode cL_law 298 = .ok (.iadd, 1) := by decide +kernel
theorem dL_law_299 : decode cL_law 299 = .ok (.invokestatic 86, 3) := by decide +kernel
theorem dL_law_302 : decode cL_law 302 = .ok (.invokestatic 102, 3) := by decide +kernel
theorem dL_law_305 : decode cL_law 305 = .ok (.ifCond .eq 21, 3) := by decide +kernel
theorem dL_law_308 : decode cL_law 308 = .ok (.aload_n 1, 1) := by decide +kernel
theorem dL_law_309 : decode cL_law 309 = .ok (.invokestatic 79, 3) := by decide +kernel
theorem dL_law_312 : decode cL_law 312 = .ok (.ifCond .eq 14, 3) := by decide +kernel
theorem dL_law_315 : decode cL_law 315 = .ok (.aload_n 1, 1) := by decide +kernel
theorem dL_law_316 : decode cL_law 316 = .ok (.invokestatic 83, 3) := by decide +kernel
theorem dL_law_319 : decode cL_law 319 = .ok (.ifCond .eq 7, 3) := by decide +kernel
theorem dL_law_322 : decode cL_law 322 = .ok (.iconst 1, 1) := by decide +kernel
theorem dL_law_323 : decode cL_law 323 = .ok (.goto 4, 3) := by decide +kernel
theorem dL_law_326 : decode cL_law 326 = .ok (.iconst 0, 1) := by decide +kernel
theorem dL_law_327 : decode cL_law 327 = .ok (.istore_n 2, 1) := by decide +kernel
theorem dL_law_328 : decode cL_law 328 = .ok (.iinc 3 1, 3) := by decide +kernel
theorem dL_law_331 : decode cL_law 331 = .ok (.goto (-48), 3) := by decide +kernel
theorem dL_law_334 : decode cL_law 334 = .ok (.aload_n 1, 1) := by decide +kernel
theorem dL_law_335 : decode cL_law 335 = .ok (.iconst 4, 1) := by decide +kernel
theorem dL_law_336 : decode cL_law 336 = .ok (.invokevirtual 10, 3) := by decide +kernel
theorem dL_law_339 : decode cL_law 339 = .ok (.istore_n 3, 1) := by decide +kernel
theorem dL_law_340 : decode cL_law 340 = .ok (.aload_n 1, 1) := by decide +kernel
theorem dL_law_341 : decode cL_law 341 = .ok (.iconst 2, 1) := by decide +kernel
theorem dL_law_342 : decode cL_law 342 = .ok (.invokevirtual 10, 3) := by decide +kernel
theorem dL_law_345 : decode cL_law 345 = .ok (.istore 4, 2) := by decide +kernel
theorem dL_law_347 : decode cL_law 347 = .ok (.iload_n 2, 1) := by decide +kernel
theorem dL_law_348 : decode cL_law 348 = .ok (.ifCond .eq 60, 3) := by decide +kernel
theorem dL_law_351 : decode cL_law 351 = .ok (.aload_n 1, 1) := by decide +kernel
theorem dL_law_352 : decode cL_law 352 = .ok (.bipush 9, 2) := by decide +kernel
theorem dL_law_354 : decode cL_law 354 = .ok (.invokevirtual 69, 3) := by decide +kernel
theorem dL_law_357 : decode cL_law 357 = .ok (.iload_n 3, 1) := by decide +kernel
theorem dL_law_358 : decode cL_law 358 = .ok (.bipush 9, 2) := by decide +kernel
theorem dL_law_360 : decode cL_law 360 = .ok (.iadd, 1) := by decide +kernel
theorem dL_law_361 : decode cL_law 361 = .ok (.if_icmp .ne 47, 3) := by decide +kernel
theorem dL_law_364 : decode cL_law 364 = .ok (.aload_n 1, 1) := by decide +kernel
theorem dL_law_365 : decode cL_law 365 = .ok (.invokevirtual 106, 3) := by decide +kernel
theorem dL_law_368 : decode cL_law 368 = .ok (.ifCond .lt 40, 3) := by decide +kernel
theorem dL_law_371 : decode cL_law 371 = .ok (.aload_n 1, 1) := by decide +kernel
theorem dL_law_372 : decode cL_law 372 = .ok (.iconst 4, 1) := by decide +kernel
theorem dL_law_373 : decode cL_law 373 = .ok (.invokevirtual 10, 3) := by decide +kernel
theorem dL_law_376 : decode cL_law 376 = .ok (.iload_n 3, 1) := by decide +kernel
theorem dL_law_377 : decode cL_law 377 = .ok (.if_icmp .ne 31, 3) := by decide +kernel
theorem dL_law_380 : decode cL_law 380 = .ok (.aload_n 1, 1) := by decide +kernel
theorem dL_law_381 : decode cL_law 381 = .ok (.iconst 2, 1) := by decide +kernel
theorem dL_law_382 : decode cL_law 382 = .ok (.invokevirtual 10, 3) := by decide +kernel
theorem dL_law_385 : decode cL_law 385 = .ok (.iload 4, 2) := by decide +kernel
theorem dL_law_387 : decode cL_law 387 = .ok (.if_icmp .ne 21, 3) := by decide +kernel
theorem dL_law_390 : decode cL_law 390 = .ok (.aload_n 1, 1) := by decide +kernel
theorem dL_law_391 : decode cL_law 391 = .ok (.invokestatic 79, 3) := by decide +kernel
theorem dL_law_394 : decode cL_law 394 = .ok (.ifCond .eq 14, 3) := by decide +kernel
theorem dL_law_397 : decode cL_law 397 = .ok (.aload_n 1, 1) := by decide +kernel
theorem dL_law_398 : decode cL_law 398 = .ok (.invokestatic 83, 3) := by decide +kernel
theorem dL_law_401 : decode cL_law 401 = .ok (.ifCond .eq 7, 3) := by decide +kernel
theorem dL_law_404 : decode cL_law 404 = .ok (.iconst 1, 1) := by decide +kernel
theorem dL_law_405 : decode cL_law 405 = .ok (.goto 4, 3) := by decide +kernel
theorem dL_law_408 : decode cL_law 408 = .ok (.iconst 0, 1) := by decide +kernel
theorem dL_law_409 : decode cL_law 409 = .ok (.ireturn, 1) := by decide +kernel
