theorem dX0_init_0 : decode cX0_init 0 = .ok (.aload_n 0, 1) := by decide +kernel
theorem dX0_init_1 : decode cX0_init 1 = .ok (.invokespecial 3, 3) := by decide +kernel
theorem dX0_init_4 : decode cX0_init 4 = .ok (.aload_n 0, 1) := by decide +kernel
theorem dX0_init_5 : decode cX0_init 5 = .ok (.bipush 16, 2) := by decide +kernel
theorem dX0_init_7 : decode cX0_init 7 = .ok (.newarray .int, 2) := by decide +kernel
theorem dX0_init_9 : decode cX0_init 9 = .ok (.putfield 9, 3) := by decide +kernel
theorem dX0_init_12 : decode cX0_init 12 = .ok (.aload_n 0, 1) := by decide +kernel
theorem dX0_init_13 : decode cX0_init 13 = .ok (.iconst 5, 1) := by decide +kernel
theorem dX0_init_14 : decode cX0_init 14 = .ok (.newarray .int, 2) := by decide +kernel
theorem dX0_init_16 : decode cX0_init 16 = .ok (.putfield 15, 3) := by decide +kernel
theorem dX0_init_19 : decode cX0_init 19 = .ok (.return_, 1) := by decide +kernel
theorem dX1_init_0 : decode cX1_init 0 = .ok (.aload_n 0, 1) := by decide +kernel
theorem dX1_init_1 : decode cX1_init 1 = .ok (.invokespecial 3, 3) := by decide +kernel
theorem dX1_init_4 : decode cX1_init 4 = .ok (.aload_n 0, 1) := by decide +kernel
theorem dX1_init_5 : decode cX1_init 5 = .ok (.iconst 4, 1) := by decide +kernel
theorem dX1_init_6 : decode cX1_init 6 = .ok (.anewarray 9, 3) := by decide +kernel
theorem dX1_init_9 : decode cX1_init 9 = .ok (.putfield 11, 3) := by decide +kernel
theorem dX1_init_12 : decode cX1_init 12 = .ok (.aload_n 0, 1) := by decide +kernel
theorem dX1_init_13 : decode cX1_init 13 = .ok (.iconst 0, 1) := by decide +kernel
theorem dX1_init_14 : decode cX1_init 14 = .ok (.putfield 17, 3) := by decide +kernel
theorem dX1_init_17 : decode cX1_init 17 = .ok (.aload_n 0, 1) := by decide +kernel
theorem dX1_init_18 : decode cX1_init 18 = .ok (.iconst 0, 1) := by decide +kernel
theorem dX1_init_19 : decode cX1_init 19 = .ok (.putfield 21, 3) := by decide +kernel
theorem dX1_init_22 : decode cX1_init 22 = .ok (.return_, 1) := by decide +kernel
theorem dX1_record_0 : decode cX1_record 0 = .ok (.aload_n 0, 1) := by decide +kernel
theorem dX1_record_1 : decode cX1_record 1 = .ok (.getfield 11, 3) := by decide +kernel
theorem dX1_record_4 : decode cX1_record 4 = .ok (.aload_n 0, 1) := by decide +kernel
theorem dX1_record_5 : decode cX1_record 5 = .ok (.getfield 17, 3) := by decide +kernel
theorem dX1_record_8 : decode cX1_record 8 = .ok (.aaload, 1) := by decide +kernel
theorem dX1_record_9 : decode cX1_record 9 = .ok (.astore_n 2, 1) := by decide +kernel
theorem dX1_record_10 : decode cX1_record 10 = .ok (.aload_n 2, 1) := by decide +kernel
theorem dX1_record_11 : decode cX1_record 11 = .ok (.ifnonnull 21, 3) := by decide +kernel
theorem dX1_record_14 : decode cX1_record 14 = .ok (.new 9, 3) := by decide +kernel
theorem dX1_record_17 : decode cX1_record 17 = .ok (.dup, 1) := by decide +kernel
theorem dX1_record_18 : decode cX1_record 18 = .ok (.invokespecial 24, 3) := by decide +kernel
theorem dX1_record_21 : decode cX1_record 21 = .ok (.astore_n 2, 1) := by decide +kernel
theorem dX1_record_22 : decode cX1_record 22 = .ok (.aload_n 0, 1) := by decide +kernel
theorem dX1_record_23 : decode cX1_record 23 = .ok (.getfield 11, 3) := by decide +kernel
theorem dX1_record_26 : decode cX1_record 26 = .ok (.aload_n 0, 1) := by decide +kernel
theorem dX1_record_27 : decode cX1_record 27 = .ok (.getfield 17, 3) := by decide +kernel
theorem dX1_record_30 : decode cX1_record 30 = .ok (.aload_n 2, 1) := by decide +kernel
theorem dX1_record_31 : decode cX1_record 31 = .ok (.aastore, 1) := by decide +kernel
theorem dX1_record_32 : decode cX1_record 32 = .ok (.aload_n 2, 1) := by decide +kernel
theorem dX1_record_33 : decode cX1_record 33 = .ok (.aload_n 1, 1) := by decide +kernel
theorem dX1_record_34 : decode cX1_record 34 = .ok (.invokevirtual 25, 3) := by decide +kernel
theorem dX1_record_37 : decode cX1_record 37 = .ok (.aload_n 0, 1) := by decide +kernel
theorem dX1_record_38 : decode cX1_record 38 = .ok (.aload_n 0, 1) := by decide +kernel
theorem dX1_record_39 : decode cX1_record 39 = .ok (.getfield 17, 3) := by decide +kernel
theorem dX1_record_42 : decode cX1_record 42 = .ok (.iconst 1, 1) := by decide +kernel
theorem dX1_record_43 : decode cX1_record 43 = .ok (.iadd, 1) := by decide +kernel
theorem dX1_record_44 : decode cX1_record 44 = .ok (.iconst 4, 1) := by decide +kernel
theorem dX1_record_45 : decode cX1_record 45 = .ok (.irem, 1) := by decide +kernel
theorem dX1_record_46 : decode cX1_record 46 = .ok (.putfield 17, 3) := by decide +kernel
theorem dX1_record_49 : decode cX1_record 49 = .ok (.aload_n 0, 1) := by decide +kernel
theorem dX1_record_50 : decode cX1_record 50 = .ok (.aload_n 0, 1) := by decide +kernel
theorem dX1_record_51 : decode cX1_record 51 = .ok (.getfield 21, 3) := by decide +kernel
theorem dX1_record_54 : decode cX1_record 54 = .ok (.iconst 1, 1) := by decide +kernel
theorem dX1_record_55 : decode cX1_record 55 = .ok (.iadd, 1) := by decide +kernel
theorem dX1_record_56 : decode cX1_record 56 = .ok (.iconst 4, 1) := by decide +kernel
theorem dX1_record_57 : decode cX1_record 57 = .ok (.invokestatic 29, 3) := by decide +kernel
theorem dX1_record_60 : decode cX1_record 60 = .ok (.putfield 21, 3) := by decide +kernel
theorem dX1_record_63 : decode cX1_record 63 = .ok (.return_, 1) := by decide +kernel
theorem dX1_restoreTo_0 : decode cX1_restoreTo 0 = .ok (.aload_n 0, 1) := by decide +kernel
theorem dX1_restoreTo_1 : decode cX1_restoreTo 1 = .ok (.getfield 17, 3) := by decide +kernel
theorem dX1_restoreTo_4 : decode cX1_restoreTo 4 = .ok (.iconst 4, 1) := by decide +kernel
theorem dX1_restoreTo_5 : decode cX1_restoreTo 5 = .ok (.iadd, 1) := by decide +kernel
theorem dX1_restoreTo_6 : decode cX1_restoreTo 6 = .ok (.iconst 1, 1) := by decide +kernel
theorem dX1_restoreTo_7 : decode cX1_restoreTo 7 = .ok (.isub, 1) := by decide +kernel
theorem dX1_restoreTo_8 : decode cX1_restoreTo 8 = .ok (.iconst 4, 1) := by decide +kernel
theorem dX1_restoreTo_9 : decode cX1_restoreTo 9 = .ok (.irem, 1) := by decide +kernel
theorem dX1_restoreTo_10 : decode cX1_restoreTo 10 = .ok (.istore_n 2, 1) := by decide +kernel
theorem dX1_restoreTo_11 : decode cX1_restoreTo 11 = .ok (.aload_n 0, 1) := by decide +kernel
theorem dX1_restoreTo_12 : decode cX1_restoreTo 12 = .ok (.getfield 11, 3) := by decide +kernel
theorem dX1_restoreTo_15 : decode cX1_restoreTo 15 = .ok (.iload_n 2, 1) := by decide +kernel
theorem dX1_restoreTo_16 : decode cX1_restoreTo 16 = .ok (.aaload, 1) := by decide +kernel
theorem dX1_restoreTo_17 : decode cX1_restoreTo 17 = .ok (.astore_n 3, 1) := by decide +kernel
theorem dX1_restoreTo_18 : decode cX1_restoreTo 18 = .ok (.aload_n 0, 1) := by decide +kernel
theorem dX1_restoreTo_19 : decode cX1_restoreTo 19 = .ok (.getfield 21, 3) := by decide +kernel
theorem dX1_restoreTo_22 : decode cX1_restoreTo 22 = .ok (.ifCond .eq 7, 3) := by decide +kernel
theorem dX1_restoreTo_25 : decode cX1_restoreTo 25 = .ok (.aload_n 3, 1) := by decide +kernel
theorem dX1_restoreTo_26 : decode cX1_restoreTo 26 = .ok (.ifnonnull 4, 3) := by decide +kernel
theorem dX1_restoreTo_29 : decode cX1_restoreTo 29 = .ok (.return_, 1) := by decide +kernel
theorem dX1_restoreTo_30 : decode cX1_restoreTo 30 = .ok (.aload_n 1, 1) := by decide +kernel
theorem dX1_restoreTo_31 : decode cX1_restoreTo 31 = .ok (.aload_n 3, 1) := by decide +kernel
theorem dX1_restoreTo_32 : decode cX1_restoreTo 32 = .ok (.invokevirtual 25, 3) := by decide +kernel
theorem dX1_restoreTo_35 : decode cX1_restoreTo 35 = .ok (.aload_n 0, 1) := by decide +kernel
theorem dX1_restoreTo_36 : decode cX1_restoreTo 36 = .ok (.iload_n 2, 1) := by decide +kernel
theorem dX1_restoreTo_37 : decode cX1_restoreTo 37 = .ok (.putfield 17, 3) := by decide +kernel
theorem dX1_restoreTo_40 : decode cX1_restoreTo 40 = .ok (.aload_n 0, 1) := by decide +kernel
theorem dX1_restoreTo_41 : decode cX1_restoreTo 41 = .ok (.dup, 1) := by decide +kernel
theorem dX1_restoreTo_42 : decode cX1_restoreTo 42 = .ok (.getfield 21, 3) := by decide +kernel
theorem dX1_restoreTo_45 : decode cX1_restoreTo 45 = .ok (.iconst 1, 1) := by decide +kernel
theorem dX1_restoreTo_46 : decode cX1_restoreTo 46 = .ok (.isub, 1) := by decide +kernel
theorem dX1_restoreTo_47 : decode cX1_restoreTo 47 = .ok (.putfield 21, 3) := by decide +kernel
theorem dX1_restoreTo_50 : decode cX1_restoreTo 50 = .ok (.return_, 1) := by decide +kernel
theorem dX2_init_0 : decode cX2_init 0 = .ok (.aload_n 0, 1) := by decide +kernel
theorem dX2_init_1 : decode cX2_init 1 = .ok (.invokespecial 3, 3) := by decide +kernel
theorem dX2_init_4 : decode cX2_init 4 = .ok (.aload_n 0, 1) := by decide +kernel
theorem dX2_init_5 : decode cX2_init 5 = .ok (.iconst 0, 1) := by decide +kernel
theorem dX2_init_6 : decode cX2_init 6 = .ok (.putfield 9, 3) := by decide +kernel
theorem dX2_init_9 : decode cX2_init 9 = .ok (.aload_n 0, 1) := by decide +kernel
theorem dX2_init_10 : decode cX2_init 10 = .ok (.bipush 16, 2) := by decide +kernel
theorem dX2_init_12 : decode cX2_init 12 = .ok (.newarray .int, 2) := by decide +kernel
theorem dX2_init_14 : decode cX2_init 14 = .ok (.putfield 15, 3) := by decide +kernel
theorem dX2_init_17 : decode cX2_init 17 = .ok (.aload_n 0, 1) := by decide +kernel
theorem dX2_init_18 : decode cX2_init 18 = .ok (.bipush 16, 2) := by decide +kernel
theorem dX2_init_20 : decode cX2_init 20 = .ok (.newarray .int, 2) := by decide +kernel
theorem dX2_init_22 : decode cX2_init 22 = .ok (.putfield 19, 3) := by decide +kernel
theorem dX2_init_25 : decode cX2_init 25 = .ok (.aload_n 0, 1) := by decide +kernel
theorem dX2_init_26 : decode cX2_init 26 = .ok (.bipush 16, 2) := by decide +kernel
theorem dX2_init_28 : decode cX2_init 28 = .ok (.newarray .int, 2) := by decide +kernel
theorem dX2_init_30 : decode cX2_init 30 = .ok (.putfield 22, 3) := by decide +kernel
theorem dX2_init_33 : decode cX2_init 33 = .ok (.aload_n 0, 1) := by decide +kernel
theorem dX2_init_34 : decode cX2_init 34 = .ok (.bipush 16, 2) := by decide +kernel
theorem dX2_init_36 : decode cX2_init 36 = .ok (.newarray .int, 2) := by decide +kernel
theorem dX2_init_38 : decode cX2_init 38 = .ok (.putfield 25, 3) := by decide +kernel
theorem dX2_init_41 : decode cX2_init 41 = .ok (.aload_n 0, 1) := by decide +kernel
theorem dX2_init_42 : decode cX2_init 42 = .ok (.bipush 16, 2) := by decide +kernel
theorem dX2_init_44 : decode cX2_init 44 = .ok (.newarray .int, 2) := by decide +kernel
theorem dX2_init_46 : decode cX2_init 46 = .ok (.putfield 28, 3) := by decide +kernel
theorem dX2_init_49 : decode cX2_init 49 = .ok (.aload_n 0, 1) := by decide +kernel
theorem dX2_init_50 : decode cX2_init 50 = .ok (.bipush 16, 2) := by decide +kernel
theorem dX2_init_52 : decode cX2_init 52 = .ok (.newarray .int, 2) := by decide +kernel
theorem dX2_init_54 : decode cX2_init 54 = .ok (.putfield 31, 3) := by decide +kernel
theorem dX2_init_57 : decode cX2_init 57 = .ok (.aload_n 0, 1) := by decide +kernel
theorem dX2_init_58 : decode cX2_init 58 = .ok (.bipush 16, 2) := by decide +kernel
theorem dX2_init_60 : decode cX2_init 60 = .ok (.newarray .int, 2) := by decide +kernel
theorem dX2_init_62 : decode cX2_init 62 = .ok (.putfield 34, 3) := by decide +kernel
theorem dX2_init_65 : decode cX2_init 65 = .ok (.aload_n 0, 1) := by decide +kernel
theorem dX2_init_66 : decode cX2_init 66 = .ok (.bipush 16, 2) := by decide +kernel
theorem dX2_init_68 : decode cX2_init 68 = .ok (.newarray .int, 2) := by decide +kernel
theorem dX2_init_70 : decode cX2_init 70 = .ok (.putfield 37, 3) := by decide +kernel
theorem dX2_init_73 : decode cX2_init 73 = .ok (.aload_n 0, 1) := by decide +kernel
theorem dX2_init_74 : decode cX2_init 74 = .ok (.bipush 16, 2) := by decide +kernel
theorem dX2_init_76 : decode cX2_init 76 = .ok (.newarray .int, 2) := by decide +kernel
theorem dX2_init_78 : decode cX2_init 78 = .ok (.putfield 40, 3) := by decide +kernel
theorem dX2_init_81 : decode cX2_init 81 = .ok (.aload_n 0, 1) := by decide +kernel
theorem dX2_init_82 : decode cX2_init 82 = .ok (.bipush 16, 2) := by decide +kernel
theorem dX2_init_84 : decode cX2_init 84 = .ok (.newarray .int, 2) := by decide +kernel
theorem dX2_init_86 : decode cX2_init 86 = .ok (.putfield 43, 3) := by decide +kernel
theorem dX2_init_89 : decode cX2_init 89 = .ok (.return_, 1) := by decide +kernel
theorem dX2_copyFrom_0 : decode cX2_copyFrom 0 = .ok (.aload_n 0, 1) := by decide +kernel
theorem dX2_copyFrom_1 : decode cX2_copyFrom 1 = .ok (.aload_n 1, 1) := by decide +kernel
theorem dX2_copyFrom_2 : decode cX2_copyFrom 2 = .ok (.getfield 9, 3) := by decide +kernel
theorem dX2_copyFrom_5 : decode cX2_copyFrom 5 = .ok (.putfield 9, 3) := by decide +kernel
theorem dX2_copyFrom_8 : decode cX2_copyFrom 8 = .ok (.aload_n 1, 1) := by decide +kernel
theorem dX2_copyFrom_9 : decode cX2_copyFrom 9 = .ok (.getfield 15, 3) := by decide +kernel
theorem dX2_copyFrom_12 : decode cX2_copyFrom 12 = .ok (.aload_n 0, 1) := by decide +kernel
theorem dX2_copyFrom_13 : decode cX2_copyFrom 13 = .ok (.getfield 15, 3) := by decide +kernel
theorem dX2_copyFrom_16 : decode cX2_copyFrom 16 = .ok (.invokestatic 46, 3) := by decide +kernel
theorem dX2_copyFrom_19 : decode cX2_copyFrom 19 = .ok (.aload_n 1, 1) := by decide +kernel
theorem dX2_copyFrom_20 : decode cX2_copyFrom 20 = .ok (.getfield 19, 3) := by decide +kernel
theorem dX2_copyFrom_23 : decode cX2_copyFrom 23 = .ok (.aload_n 0, 1) := by decide +kernel
theorem dX2_copyFrom_24 : decode cX2_copyFrom 24 = .ok (.getfield 19, 3) := by decide +kernel
theorem dX2_copyFrom_27 : decode cX2_copyFrom 27 = .ok (.invokestatic 46, 3) := by decide +kernel
theorem dX2_copyFrom_30 : decode cX2_copyFrom 30 = .ok (.aload_n 1, 1) := by decide +kernel
theorem dX2_copyFrom_31 : decode cX2_copyFrom 31 = .ok (.getfield 22, 3) := by decide +kernel
theorem dX2_copyFrom_34 : decode cX2_copyFrom 34 = .ok (.aload_n 0, 1) := by decide +kernel
theorem dX2_copyFrom_35 : decode cX2_copyFrom 35 = .ok (.getfield 22, 3) := by decide +kernel
theorem dX2_copyFrom_38 : decode cX2_copyFrom 38 = .ok (.invokestatic 46, 3) := by decide +kernel
theorem dX2_copyFrom_41 : decode cX2_copyFrom 41 = .ok (.aload_n 1, 1) := by decide +kernel
theorem dX2_copyFrom_42 : decode cX2_copyFrom 42 = .ok (.getfield 25, 3) := by decide +kernel
theorem dX2_copyFrom_45 : decode cX2_copyFrom 45 = .ok (.aload_n 0, 1) := by decide +kernel
theorem dX2_copyFrom_46 : decode cX2_copyFrom 46 = .ok (.getfield 25, 3) := by decide +kernel
theorem dX2_copyFrom_49 : decode cX2_copyFrom 49 = .ok (.invokestatic 46, 3) := by decide +kernel
theorem dX2_copyFrom_52 : decode cX2_copyFrom 52 = .ok (.aload_n 1, 1) := by decide +kernel
theorem dX2_copyFrom_53 : decode cX2_copyFrom 53 = .ok (.getfield 28, 3) := by decide +kernel
theorem dX2_copyFrom_56 : decode cX2_copyFrom 56 = .ok (.aload_n 0, 1) := by decide +kernel
theorem dX2_copyFrom_57 : decode cX2_copyFrom 57 = .ok (.getfield 28, 3) := by decide +kernel
theorem dX2_copyFrom_60 : decode cX2_copyFrom 60 = .ok (.invokestatic 46, 3) := by decide +kernel
theorem dX2_copyFrom_63 : decode cX2_copyFrom 63 = .ok (.aload_n 1, 1) := by decide +kernel
theorem dX2_copyFrom_64 : decode cX2_copyFrom 64 = .ok (.getfield 31, 3) := by decide +kernel
theorem dX2_copyFrom_67 : decode cX2_copyFrom 67 = .ok (.aload_n 0, 1) := by decide +kernel
theorem dX2_copyFrom_68 : decode cX2_copyFrom 68 = .ok (.getfield 31, 3) := by decide +kernel
theorem dX2_copyFrom_71 : decode cX2_copyFrom 71 = .ok (.invokestatic 46, 3) := by decide +kernel
theorem dX2_copyFrom_74 : decode cX2_copyFrom 74 = .ok (.aload_n 1, 1) := by decide +kernel
theorem dX2_copyFrom_75 : decode cX2_copyFrom 75 = .ok (.getfield 34, 3) := by decide +kernel
theorem dX2_copyFrom_78 : decode cX2_copyFrom 78 = .ok (.aload_n 0, 1) := by decide +kernel
theorem dX2_copyFrom_79 : decode cX2_copyFrom 79 = .ok (.getfield 34, 3) := by decide +kernel
theorem dX2_copyFrom_82 : decode cX2_copyFrom 82 = .ok (.invokestatic 46, 3) := by decide +kernel
theorem dX2_copyFrom_85 : decode cX2_copyFrom 85 = .ok (.aload_n 1, 1) := by decide +kernel
theorem dX2_copyFrom_86 : decode cX2_copyFrom 86 = .ok (.getfield 37, 3) := by decide +kernel
theorem dX2_copyFrom_89 : decode cX2_copyFrom 89 = .ok (.aload_n 0, 1) := by decide +kernel
theorem dX2_copyFrom_90 : decode cX2_copyFrom 90 = .ok (.getfield 37, 3) := by decide +kernel
theorem dX2_copyFrom_93 : decode cX2_copyFrom 93 = .ok (.invokestatic 46, 3) := by decide +kernel
theorem dX2_copyFrom_96 : decode cX2_copyFrom 96 = .ok (.aload_n 1, 1) := by decide +kernel
theorem dX2_copyFrom_97 : decode cX2_copyFrom 97 = .ok (.getfield 40, 3) := by decide +kernel
theorem dX2_copyFrom_100 : decode cX2_copyFrom 100 = .ok (.aload_n 0, 1) := by decide +kernel
theorem dX2_copyFrom_101 : decode cX2_copyFrom 101 = .ok (.getfield 40, 3) := by decide +kernel
theorem dX2_copyFrom_104 : decode cX2_copyFrom 104 = .ok (.invokestatic 46, 3) := by decide +kernel
theorem dX2_copyFrom_107 : decode cX2_copyFrom 107 = .ok (.aload_n 1, 1) := by decide +kernel
theorem dX2_copyFrom_108 : decode cX2_copyFrom 108 = .ok (.getfield 43, 3) := by decide +kernel
theorem dX2_copyFrom_111 : decode cX2_copyFrom 111 = .ok (.aload_n 0, 1) := by decide +kernel
theorem dX2_copyFrom_112 : decode cX2_copyFrom 112 = .ok (.getfield 43, 3) := by decide +kernel
theorem dX2_copyFrom_115 : decode cX2_copyFrom 115 = .ok (.invokestatic 46, 3) := by decide +kernel
theorem dX2_copyFrom_118 : decode cX2_copyFrom 118 = .ok (.return_, 1) := by decide +kernel
theorem dX2_has_0 : decode cX2_has 0 = .ok (.iload_n 1, 1) := by decide +kernel
theorem dX2_has_1 : decode cX2_has 1 = .ok (.iconst 0, 1) := by decide +kernel
theorem dX2_has_2 : decode cX2_has 2 = .ok (.aload_n 0, 1) := by decide +kernel
theorem dX2_has_3 : decode cX2_has 3 = .ok (.getfield 9, 3) := by decide +kernel
theorem dX2_has_6 : decode cX2_has 6 = .ok (.iconst 1, 1) := by decide +kernel
theorem dX2_has_7 : decode cX2_has 7 = .ok (.isub, 1) := by decide +kernel
theorem dX2_has_8 : decode cX2_has 8 = .ok (.invokestatic 50, 3) := by decide +kernel
theorem dX2_has_11 : decode cX2_has 11 = .ok (.ireturn, 1) := by decide +kernel
theorem dX2_isDrawn_0 : decode cX2_isDrawn 0 = .ok (.aload_n 0, 1) := by decide +kernel
theorem dX2_isDrawn_1 : decode cX2_isDrawn 1 = .ok (.getfield 34, 3) := by decide +kernel
theorem dX2_isDrawn_4 : decode cX2_isDrawn 4 = .ok (.iload_n 1, 1) := by decide +kernel
theorem dX2_isDrawn_5 : decode cX2_isDrawn 5 = .ok (.iaload, 1) := by decide +kernel
theorem dX2_isDrawn_6 : decode cX2_isDrawn 6 = .ok (.iconst (-1), 1) := by decide +kernel
theorem dX2_isDrawn_7 : decode cX2_isDrawn 7 = .ok (.if_icmp .eq 7, 3) := by decide +kernel
theorem dX2_isDrawn_10 : decode cX2_isDrawn 10 = .ok (.iconst 1, 1) := by decide +kernel
theorem dX2_isDrawn_11 : decode cX2_isDrawn 11 = .ok (.goto 4, 3) := by decide +kernel
theorem dX2_isDrawn_14 : decode cX2_isDrawn 14 = .ok (.iconst 0, 1) := by decide +kernel
theorem dX2_isDrawn_15 : decode cX2_isDrawn 15 = .ok (.ireturn, 1) := by decide +kernel
theorem dX2_add_0 : decode cX2_add 0 = .ok (.aload_n 0, 1) := by decide +kernel
theorem dX2_add_1 : decode cX2_add 1 = .ok (.getfield 9, 3) := by decide +kernel
theorem dX2_add_4 : decode cX2_add 4 = .ok (.istore 5, 2) := by decide +kernel
theorem dX2_add_6 : decode cX2_add 6 = .ok (.aload_n 0, 1) := by decide +kernel
theorem dX2_add_7 : decode cX2_add 7 = .ok (.getfield 15, 3) := by decide +kernel
theorem dX2_add_10 : decode cX2_add 10 = .ok (.iload 5, 2) := by decide +kernel
theorem dX2_add_12 : decode cX2_add 12 = .ok (.iload_n 1, 1) := by decide +kernel
theorem dX2_add_13 : decode cX2_add 13 = .ok (.iastore, 1) := by decide +kernel
theorem dX2_add_14 : decode cX2_add 14 = .ok (.aload_n 0, 1) := by decide +kernel
theorem dX2_add_15 : decode cX2_add 15 = .ok (.getfield 19, 3) := by decide +kernel
theorem dX2_add_18 : decode cX2_add 18 = .ok (.iload 5, 2) := by decide +kernel
theorem dX2_add_20 : decode cX2_add 20 = .ok (.iload_n 2, 1) := by decide +kernel
theorem dX2_add_21 : decode cX2_add 21 = .ok (.iastore, 1) := by decide +kernel
theorem dX2_add_22 : decode cX2_add 22 = .ok (.aload_n 0, 1) := by decide +kernel
theorem dX2_add_23 : decode cX2_add 23 = .ok (.getfield 22, 3) := by decide +kernel
theorem dX2_add_26 : decode cX2_add 26 = .ok (.iload 5, 2) := by decide +kernel
theorem dX2_add_28 : decode cX2_add 28 = .ok (.iload_n 3, 1) := by decide +kernel
theorem dX2_add_29 : decode cX2_add 29 = .ok (.iastore, 1) := by decide +kernel
theorem dX2_add_30 : decode cX2_add 30 = .ok (.aload_n 0, 1) := by decide +kernel
theorem dX2_add_31 : decode cX2_add 31 = .ok (.getfield 25, 3) := by decide +kernel
theorem dX2_add_34 : decode cX2_add 34 = .ok (.iload 5, 2) := by decide +kernel
theorem dX2_add_36 : decode cX2_add 36 = .ok (.iload 4, 2) := by decide +kernel
theorem dX2_add_38 : decode cX2_add 38 = .ok (.iastore, 1) := by decide +kernel
theorem dX2_add_39 : decode cX2_add 39 = .ok (.aload_n 0, 1) := by decide +kernel
theorem dX2_add_40 : decode cX2_add 40 = .ok (.getfield 28, 3) := by decide +kernel
theorem dX2_add_43 : decode cX2_add 43 = .ok (.iload 5, 2) := by decide +kernel
theorem dX2_add_45 : decode cX2_add 45 = .ok (.iload_n 1, 1) := by decide +kernel
theorem dX2_add_46 : decode cX2_add 46 = .ok (.iload_n 2, 1) := by decide +kernel
theorem dX2_add_47 : decode cX2_add 47 = .ok (.iload_n 3, 1) := by decide +kernel
theorem dX2_add_48 : decode cX2_add 48 = .ok (.iload 4, 2) := by decide +kernel
theorem dX2_add_50 : decode cX2_add 50 = .ok (.invokestatic 54, 3) := by decide +kernel
theorem dX2_add_53 : decode cX2_add 53 = .ok (.iastore, 1) := by decide +kernel
theorem dX2_add_54 : decode cX2_add 54 = .ok (.aload_n 0, 1) := by decide +kernel
theorem dX2_add_55 : decode cX2_add 55 = .ok (.getfield 34, 3) := by decide +kernel
theorem dX2_add_58 : decode cX2_add 58 = .ok (.iload 5, 2) := by decide +kernel
theorem dX2_add_60 : decode cX2_add 60 = .ok (.iconst (-1), 1) := by decide +kernel
theorem dX2_add_61 : decode cX2_add 61 = .ok (.iastore, 1) := by decide +kernel
theorem dX2_add_62 : decode cX2_add 62 = .ok (.aload_n 0, 1) := by decide +kernel
theorem dX2_add_63 : decode cX2_add 63 = .ok (.iload 5, 2) := by decide +kernel
theorem dX2_add_65 : decode cX2_add 65 = .ok (.invokevirtual 58, 3) := by decide +kernel
theorem dX2_add_68 : decode cX2_add 68 = .ok (.aload_n 0, 1) := by decide +kernel
theorem dX2_add_69 : decode cX2_add 69 = .ok (.dup, 1) := by decide +kernel
theorem dX2_add_70 : decode cX2_add 70 = .ok (.getfield 9, 3) := by decide +kernel
theorem dX2_add_73 : decode cX2_add 73 = .ok (.iconst 1, 1) := by decide +kernel
theorem dX2_add_74 : decode cX2_add 74 = .ok (.iadd, 1) := by decide +kernel
theorem dX2_add_75 : decode cX2_add 75 = .ok (.putfield 9, 3) := by decide +kernel
theorem dX2_add_78 : decode cX2_add 78 = .ok (.iload 5, 2) := by decide +kernel
theorem dX2_add_80 : decode cX2_add 80 = .ok (.ireturn, 1) := by decide +kernel
theorem dX2_noteTouching_0 : decode cX2_noteTouching 0 = .ok (.aload_n 0, 1) := by decide +kernel
theorem dX2_noteTouching_1 : decode cX2_noteTouching 1 = .ok (.getfield 31, 3) := by decide +kernel
theorem dX2_noteTouching_4 : decode cX2_noteTouching 4 = .ok (.iload_n 1, 1) := by decide +kernel
theorem dX2_noteTouching_5 : decode cX2_noteTouching 5 = .ok (.iconst 0, 1) := by decide +kernel
theorem dX2_noteTouching_6 : decode cX2_noteTouching 6 = .ok (.iastore, 1) := by decide +kernel
theorem dX2_noteTouching_7 : decode cX2_noteTouching 7 = .ok (.iconst 0, 1) := by decide +kernel
theorem dX2_noteTouching_8 : decode cX2_noteTouching 8 = .ok (.istore_n 2, 1) := by decide +kernel
theorem dX2_noteTouching_9 : decode cX2_noteTouching 9 = .ok (.iload_n 2, 1) := by decide +kernel
theorem dX2_noteTouching_10 : decode cX2_noteTouching 10 = .ok (.iload_n 1, 1) := by decide +kernel
theorem dX2_noteTouching_11 : decode cX2_noteTouching 11 = .ok (.if_icmp .ge 42, 3) := by decide +kernel
theorem dX2_noteTouching_14 : decode cX2_noteTouching 14 = .ok (.aload_n 0, 1) := by decide +kernel
theorem dX2_noteTouching_15 : decode cX2_noteTouching 15 = .ok (.iload_n 1, 1) := by decide +kernel
theorem dX2_noteTouching_16 : decode cX2_noteTouching 16 = .ok (.iload_n 2, 1) := by decide +kernel
theorem dX2_noteTouching_17 : decode cX2_noteTouching 17 = .ok (.invokevirtual 62, 3) := by decide +kernel
theorem dX2_noteTouching_20 : decode cX2_noteTouching 20 = .ok (.ifCond .eq 27, 3) := by decide +kernel
theorem dX2_noteTouching_23 : decode cX2_noteTouching 23 = .ok (.aload_n 0, 1) := by decide +kernel
theorem dX2_noteTouching_24 : decode cX2_noteTouching 24 = .ok (.getfield 31, 3) := by decide +kernel
theorem dX2_noteTouching_27 : decode cX2_noteTouching 27 = .ok (.iload_n 1, 1) := by decide +kernel
theorem dX2_noteTouching_28 : decode cX2_noteTouching 28 = .ok (.dup2, 1) := by decide +kernel
theorem dX2_noteTouching_29 : decode cX2_noteTouching 29 = .ok (.iaload, 1) := by decide +kernel
theorem dX2_noteTouching_30 : decode cX2_noteTouching 30 = .ok (.iconst 1, 1) := by decide +kernel
theorem dX2_noteTouching_31 : decode cX2_noteTouching 31 = .ok (.iload_n 2, 1) := by decide +kernel
theorem dX2_noteTouching_32 : decode cX2_noteTouching 32 = .ok (.ishl, 1) := by decide +kernel
theorem dX2_noteTouching_33 : decode cX2_noteTouching 33 = .ok (.ior, 1) := by decide +kernel
theorem dX2_noteTouching_34 : decode cX2_noteTouching 34 = .ok (.iastore, 1) := by decide +kernel
theorem dX2_noteTouching_35 : decode cX2_noteTouching 35 = .ok (.aload_n 0, 1) := by decide +kernel
theorem dX2_noteTouching_36 : decode cX2_noteTouching 36 = .ok (.getfield 31, 3) := by decide +kernel
theorem dX2_noteTouching_39 : decode cX2_noteTouching 39 = .ok (.iload_n 2, 1) := by decide +kernel
theorem dX2_noteTouching_40 : decode cX2_noteTouching 40 = .ok (.dup2, 1) := by decide +kernel
theorem dX2_noteTouching_41 : decode cX2_noteTouching 41 = .ok (.iaload, 1) := by decide +kernel
theorem dX2_noteTouching_42 : decode cX2_noteTouching 42 = .ok (.iconst 1, 1) := by decide +kernel
theorem dX2_noteTouching_43 : decode cX2_noteTouching 43 = .ok (.iload_n 1, 1) := by decide +kernel
theorem dX2_noteTouching_44 : decode cX2_noteTouching 44 = .ok (.ishl, 1) := by decide +kernel
theorem dX2_noteTouching_45 : decode cX2_noteTouching 45 = .ok (.ior, 1) := by decide +kernel
theorem dX2_noteTouching_46 : decode cX2_noteTouching 46 = .ok (.iastore, 1) := by decide +kernel
theorem dX2_noteTouching_47 : decode cX2_noteTouching 47 = .ok (.iinc 2 1, 3) := by decide +kernel
theorem dX2_noteTouching_50 : decode cX2_noteTouching 50 = .ok (.goto (-41), 3) := by decide +kernel
theorem dX2_noteTouching_53 : decode cX2_noteTouching 53 = .ok (.return_, 1) := by decide +kernel
theorem dX2_isTouching_0 : decode cX2_isTouching 0 = .ok (.aload_n 0, 1) := by decide +kernel
theorem dX2_isTouching_1 : decode cX2_isTouching 1 = .ok (.getfield 31, 3) := by decide +kernel
theorem dX2_isTouching_4 : decode cX2_isTouching 4 = .ok (.iload_n 1, 1) := by decide +kernel
theorem dX2_isTouching_5 : decode cX2_isTouching 5 = .ok (.iaload, 1) := by decide +kernel
theorem dX2_isTouching_6 : decode cX2_isTouching 6 = .ok (.iconst 1, 1) := by decide +kernel
theorem dX2_isTouching_7 : decode cX2_isTouching 7 = .ok (.iload_n 2, 1) := by decide +kernel
theorem dX2_isTouching_8 : decode cX2_isTouching 8 = .ok (.ishl, 1) := by decide +kernel
theorem dX2_isTouching_9 : decode cX2_isTouching 9 = .ok (.iand, 1) := by decide +kernel
theorem dX2_isTouching_10 : decode cX2_isTouching 10 = .ok (.ifCond .eq 7, 3) := by decide +kernel
theorem dX2_isTouching_13 : decode cX2_isTouching 13 = .ok (.iconst 1, 1) := by decide +kernel
theorem dX2_isTouching_14 : decode cX2_isTouching 14 = .ok (.goto 4, 3) := by decide +kernel
theorem dX2_isTouching_17 : decode cX2_isTouching 17 = .ok (.iconst 0, 1) := by decide +kernel
theorem dX2_isTouching_18 : decode cX2_isTouching 18 = .ok (.ireturn, 1) := by decide +kernel
theorem dX2_beginX_0 : decode cX2_beginX 0 = .ok (.iload_n 2, 1) := by decide +kernel
theorem dX2_beginX_1 : decode cX2_beginX 1 = .ok (.ifCond .ne 12, 3) := by decide +kernel
theorem dX2_beginX_4 : decode cX2_beginX 4 = .ok (.aload_n 0, 1) := by decide +kernel
theorem dX2_beginX_5 : decode cX2_beginX 5 = .ok (.getfield 15, 3) := by decide +kernel
theorem dX2_beginX_8 : decode cX2_beginX 8 = .ok (.iload_n 1, 1) := by decide +kernel
theorem dX2_beginX_9 : decode cX2_beginX 9 = .ok (.iaload, 1) := by decide +kernel
theorem dX2_beginX_10 : decode cX2_beginX 10 = .ok (.goto 9, 3) := by decide +kernel
theorem dX2_beginX_13 : decode cX2_beginX 13 = .ok (.aload_n 0, 1) := by decide +kernel
theorem dX2_beginX_14 : decode cX2_beginX 14 = .ok (.getfield 22, 3) := by decide +kernel
theorem dX2_beginX_17 : decode cX2_beginX 17 = .ok (.iload_n 1, 1) := by decide +kernel
theorem dX2_beginX_18 : decode cX2_beginX 18 = .ok (.iaload, 1) := by decide +kernel
theorem dX2_beginX_19 : decode cX2_beginX 19 = .ok (.ireturn, 1) := by decide +kernel
theorem dX2_beginY_0 : decode cX2_beginY 0 = .ok (.iload_n 2, 1) := by decide +kernel
theorem dX2_beginY_1 : decode cX2_beginY 1 = .ok (.ifCond .ne 12, 3) := by decide +kernel
theorem dX2_beginY_4 : decode cX2_beginY 4 = .ok (.aload_n 0, 1) := by decide +kernel
theorem dX2_beginY_5 : decode cX2_beginY 5 = .ok (.getfield 19, 3) := by decide +kernel
theorem dX2_beginY_8 : decode cX2_beginY 8 = .ok (.iload_n 1, 1) := by decide +kernel
theorem dX2_beginY_9 : decode cX2_beginY 9 = .ok (.iaload, 1) := by decide +kernel
theorem dX2_beginY_10 : decode cX2_beginY 10 = .ok (.goto 9, 3) := by decide +kernel
theorem dX2_beginY_13 : decode cX2_beginY 13 = .ok (.aload_n 0, 1) := by decide +kernel
theorem dX2_beginY_14 : decode cX2_beginY 14 = .ok (.getfield 25, 3) := by decide +kernel
theorem dX2_beginY_17 : decode cX2_beginY 17 = .ok (.iload_n 1, 1) := by decide +kernel
theorem dX2_beginY_18 : decode cX2_beginY 18 = .ok (.iaload, 1) := by decide +kernel
theorem dX2_beginY_19 : decode cX2_beginY 19 = .ok (.ireturn, 1) := by decide +kernel
theorem dX2_lengthNotDrawn_0 : decode cX2_lengthNotDrawn 0 = .ok (.iconst 0, 1) := by decide +kernel
theorem dX2_lengthNotDrawn_1 : decode cX2_lengthNotDrawn 1 = .ok (.istore_n 1, 1) := by decide +kernel
theorem dX2_lengthNotDrawn_2 : decode cX2_lengthNotDrawn 2 = .ok (.iconst 0, 1) := by decide +kernel
theorem dX2_lengthNotDrawn_3 : decode cX2_lengthNotDrawn 3 = .ok (.istore_n 2, 1) := by decide +kernel
theorem dX2_lengthNotDrawn_4 : decode cX2_lengthNotDrawn 4 = .ok (.iload_n 2, 1) := by decide +kernel
theorem dX2_lengthNotDrawn_5 : decode cX2_lengthNotDrawn 5 = .ok (.aload_n 0, 1) := by decide +kernel
theorem dX2_lengthNotDrawn_6 : decode cX2_lengthNotDrawn 6 = .ok (.getfield 9, 3) := by decide +kernel
theorem dX2_lengthNotDrawn_9 : decode cX2_lengthNotDrawn 9 = .ok (.if_icmp .ge 30, 3) := by decide +kernel
theorem dX2_lengthNotDrawn_12 : decode cX2_lengthNotDrawn 12 = .ok (.iload_n 1, 1) := by decide +kernel
theorem dX2_lengthNotDrawn_13 : decode cX2_lengthNotDrawn 13 = .ok (.aload_n 0, 1) := by decide +kernel
theorem dX2_lengthNotDrawn_14 : decode cX2_lengthNotDrawn 14 = .ok (.iload_n 2, 1) := by decide +kernel
theorem dX2_lengthNotDrawn_15 : decode cX2_lengthNotDrawn 15 = .ok (.invokevirtual 66, 3) := by decide +kernel
theorem dX2_lengthNotDrawn_18 : decode cX2_lengthNotDrawn 18 = .ok (.ifCond .eq 7, 3) := by decide +kernel
theorem dX2_lengthNotDrawn_21 : decode cX2_lengthNotDrawn 21 = .ok (.iconst 0, 1) := by decide +kernel
theorem dX2_lengthNotDrawn_22 : decode cX2_lengthNotDrawn 22 = .ok (.goto 9, 3) := by decide +kernel
theorem dX2_lengthNotDrawn_25 : decode cX2_lengthNotDrawn 25 = .ok (.aload_n 0, 1) := by decide +kernel
theorem dX2_lengthNotDrawn_26 : decode cX2_lengthNotDrawn 26 = .ok (.getfield 28, 3) := by decide +kernel
theorem dX2_lengthNotDrawn_29 : decode cX2_lengthNotDrawn 29 = .ok (.iload_n 2, 1) := by decide +kernel
theorem dX2_lengthNotDrawn_30 : decode cX2_lengthNotDrawn 30 = .ok (.iaload, 1) := by decide +kernel
theorem dX2_lengthNotDrawn_31 : decode cX2_lengthNotDrawn 31 = .ok (.iadd, 1) := by decide +kernel
theorem dX2_lengthNotDrawn_32 : decode cX2_lengthNotDrawn 32 = .ok (.istore_n 1, 1) := by decide +kernel
theorem dX2_lengthNotDrawn_33 : decode cX2_lengthNotDrawn 33 = .ok (.iinc 2 1, 3) := by decide +kernel
theorem dX2_lengthNotDrawn_36 : decode cX2_lengthNotDrawn 36 = .ok (.goto (-32), 3) := by decide +kernel
theorem dX2_lengthNotDrawn_39 : decode cX2_lengthNotDrawn 39 = .ok (.iload_n 1, 1) := by decide +kernel
theorem dX2_lengthNotDrawn_40 : decode cX2_lengthNotDrawn 40 = .ok (.ireturn, 1) := by decide +kernel
theorem dX2_howManyDrawn_0 : decode cX2_howManyDrawn 0 = .ok (.iconst 0, 1) := by decide +kernel
theorem dX2_howManyDrawn_1 : decode cX2_howManyDrawn 1 = .ok (.istore_n 1, 1) := by decide +kernel
theorem dX2_howManyDrawn_2 : decode cX2_howManyDrawn 2 = .ok (.iconst 0, 1) := by decide +kernel
theorem dX2_howManyDrawn_3 : decode cX2_howManyDrawn 3 = .ok (.istore_n 2, 1) := by decide +kernel
theorem dX2_howManyDrawn_4 : decode cX2_howManyDrawn 4 = .ok (.iload_n 2, 1) := by decide +kernel
theorem dX2_howManyDrawn_5 : decode cX2_howManyDrawn 5 = .ok (.aload_n 0, 1) := by decide +kernel
theorem dX2_howManyDrawn_6 : decode cX2_howManyDrawn 6 = .ok (.getfield 9, 3) := by decide +kernel
theorem dX2_howManyDrawn_9 : decode cX2_howManyDrawn 9 = .ok (.if_icmp .ge 20, 3) := by decide +kernel
theorem dX2_howManyDrawn_12 : decode cX2_howManyDrawn 12 = .ok (.iload_n 1, 1) := by decide +kernel
theorem dX2_howManyDrawn_13 : decode cX2_howManyDrawn 13 = .ok (.aload_n 0, 1) := by decide +kernel
theorem dX2_howManyDrawn_14 : decode cX2_howManyDrawn 14 = .ok (.iload_n 2, 1) := by decide +kernel
theorem dX2_howManyDrawn_15 : decode cX2_howManyDrawn 15 = .ok (.invokevirtual 66, 3) := by decide +kernel
theorem dX2_howManyDrawn_18 : decode cX2_howManyDrawn 18 = .ok (.invokestatic 70, 3) := by decide +kernel
theorem dX2_howManyDrawn_21 : decode cX2_howManyDrawn 21 = .ok (.iadd, 1) := by decide +kernel
theorem dX2_howManyDrawn_22 : decode cX2_howManyDrawn 22 = .ok (.istore_n 1, 1) := by decide +kernel
theorem dX2_howManyDrawn_23 : decode cX2_howManyDrawn 23 = .ok (.iinc 2 1, 3) := by decide +kernel
theorem dX2_howManyDrawn_26 : decode cX2_howManyDrawn 26 = .ok (.goto (-22), 3) := by decide +kernel
theorem dX2_howManyDrawn_29 : decode cX2_howManyDrawn 29 = .ok (.iload_n 1, 1) := by decide +kernel
theorem dX2_howManyDrawn_30 : decode cX2_howManyDrawn 30 = .ok (.ireturn, 1) := by decide +kernel
theorem dX2_howManyDrawnBy_0 : decode cX2_howManyDrawnBy 0 = .ok (.iconst 0, 1) := by decide +kernel
theorem dX2_howManyDrawnBy_1 : decode cX2_howManyDrawnBy 1 = .ok (.istore_n 2, 1) := by decide +kernel
theorem dX2_howManyDrawnBy_2 : decode cX2_howManyDrawnBy 2 = .ok (.iconst 0, 1) := by decide +kernel
theorem dX2_howManyDrawnBy_3 : decode cX2_howManyDrawnBy 3 = .ok (.istore_n 3, 1) := by decide +kernel
theorem dX2_howManyDrawnBy_4 : decode cX2_howManyDrawnBy 4 = .ok (.iload_n 3, 1) := by decide +kernel
theorem dX2_howManyDrawnBy_5 : decode cX2_howManyDrawnBy 5 = .ok (.aload_n 0, 1) := by decide +kernel
theorem dX2_howManyDrawnBy_6 : decode cX2_howManyDrawnBy 6 = .ok (.getfield 9, 3) := by decide +kernel
theorem dX2_howManyDrawnBy_9 : decode cX2_howManyDrawnBy 9 = .ok (.if_icmp .ge 30, 3) := by decide +kernel
theorem dX2_howManyDrawnBy_12 : decode cX2_howManyDrawnBy 12 = .ok (.iload_n 2, 1) := by decide +kernel
theorem dX2_howManyDrawnBy_13 : decode cX2_howManyDrawnBy 13 = .ok (.aload_n 0, 1) := by decide +kernel
theorem dX2_howManyDrawnBy_14 : decode cX2_howManyDrawnBy 14 = .ok (.getfield 34, 3) := by decide +kernel
theorem dX2_howManyDrawnBy_17 : decode cX2_howManyDrawnBy 17 = .ok (.iload_n 3, 1) := by decide +kernel
theorem dX2_howManyDrawnBy_18 : decode cX2_howManyDrawnBy 18 = .ok (.iaload, 1) := by decide +kernel
theorem dX2_howManyDrawnBy_19 : decode cX2_howManyDrawnBy 19 = .ok (.iload_n 1, 1) := by decide +kernel
theorem dX2_howManyDrawnBy_20 : decode cX2_howManyDrawnBy 20 = .ok (.if_icmp .ne 7, 3) := by decide +kernel
theorem dX2_howManyDrawnBy_23 : decode cX2_howManyDrawnBy 23 = .ok (.iconst 1, 1) := by decide +kernel
theorem dX2_howManyDrawnBy_24 : decode cX2_howManyDrawnBy 24 = .ok (.goto 4, 3) := by decide +kernel
theorem dX2_howManyDrawnBy_27 : decode cX2_howManyDrawnBy 27 = .ok (.iconst 0, 1) := by decide +kernel
theorem dX2_howManyDrawnBy_28 : decode cX2_howManyDrawnBy 28 = .ok (.invokestatic 70, 3) := by decide +kernel
theorem dX2_howManyDrawnBy_31 : decode cX2_howManyDrawnBy 31 = .ok (.iadd, 1) := by decide +kernel
theorem dX2_howManyDrawnBy_32 : decode cX2_howManyDrawnBy 32 = .ok (.istore_n 2, 1) := by decide +kernel
theorem dX2_howManyDrawnBy_33 : decode cX2_howManyDrawnBy 33 = .ok (.iinc 3 1, 3) := by decide +kernel
theorem dX2_howManyDrawnBy_36 : decode cX2_howManyDrawnBy 36 = .ok (.goto (-32), 3) := by decide +kernel
theorem dX2_howManyDrawnBy_39 : decode cX2_howManyDrawnBy 39 = .ok (.iload_n 2, 1) := by decide +kernel
theorem dX2_howManyDrawnBy_40 : decode cX2_howManyDrawnBy 40 = .ok (.ireturn, 1) := by decide +kernel
theorem dX2_meet_0 : decode cX2_meet 0 = .ok (.aload_n 0, 1) := by decide +kernel
theorem dX2_meet_1 : decode cX2_meet 1 = .ok (.getfield 15, 3) := by decide +kernel
theorem dX2_meet_4 : decode cX2_meet 4 = .ok (.iload_n 1, 1) := by decide +kernel
theorem dX2_meet_5 : decode cX2_meet 5 = .ok (.iaload, 1) := by decide +kernel
theorem dX2_meet_6 : decode cX2_meet 6 = .ok (.aload_n 0, 1) := by decide +kernel
theorem dX2_meet_7 : decode cX2_meet 7 = .ok (.getfield 22, 3) := by decide +kernel
theorem dX2_meet_10 : decode cX2_meet 10 = .ok (.iload_n 1, 1) := by decide +kernel
theorem dX2_meet_11 : decode cX2_meet 11 = .ok (.iaload, 1) := by decide +kernel
theorem dX2_meet_12 : decode cX2_meet 12 = .ok (.aload_n 0, 1) := by decide +kernel
theorem dX2_meet_13 : decode cX2_meet 13 = .ok (.getfield 15, 3) := by decide +kernel
theorem dX2_meet_16 : decode cX2_meet 16 = .ok (.iload_n 2, 1) := by decide +kernel
theorem dX2_meet_17 : decode cX2_meet 17 = .ok (.iaload, 1) := by decide +kernel
theorem dX2_meet_18 : decode cX2_meet 18 = .ok (.aload_n 0, 1) := by decide +kernel
theorem dX2_meet_19 : decode cX2_meet 19 = .ok (.getfield 22, 3) := by decide +kernel
theorem dX2_meet_22 : decode cX2_meet 22 = .ok (.iload_n 2, 1) := by decide +kernel
theorem dX2_meet_23 : decode cX2_meet 23 = .ok (.iaload, 1) := by decide +kernel
theorem dX2_meet_24 : decode cX2_meet 24 = .ok (.invokestatic 74, 3) := by decide +kernel
theorem dX2_meet_27 : decode cX2_meet 27 = .ok (.ifCond .eq 55, 3) := by decide +kernel
theorem dX2_meet_30 : decode cX2_meet 30 = .ok (.aload_n 0, 1) := by decide +kernel
theorem dX2_meet_31 : decode cX2_meet 31 = .ok (.getfield 19, 3) := by decide +kernel
theorem dX2_meet_34 : decode cX2_meet 34 = .ok (.iload_n 1, 1) := by decide +kernel
theorem dX2_meet_35 : decode cX2_meet 35 = .ok (.iaload, 1) := by decide +kernel
theorem dX2_meet_36 : decode cX2_meet 36 = .ok (.aload_n 0, 1) := by decide +kernel
theorem dX2_meet_37 : decode cX2_meet 37 = .ok (.getfield 25, 3) := by decide +kernel
theorem dX2_meet_40 : decode cX2_meet 40 = .ok (.iload_n 1, 1) := by decide +kernel
theorem dX2_meet_41 : decode cX2_meet 41 = .ok (.iaload, 1) := by decide +kernel
theorem dX2_meet_42 : decode cX2_meet 42 = .ok (.aload_n 0, 1) := by decide +kernel
theorem dX2_meet_43 : decode cX2_meet 43 = .ok (.getfield 19, 3) := by decide +kernel
theorem dX2_meet_46 : decode cX2_meet 46 = .ok (.iload_n 2, 1) := by decide +kernel
theorem dX2_meet_47 : decode cX2_meet 47 = .ok (.iaload, 1) := by decide +kernel
theorem dX2_meet_48 : decode cX2_meet 48 = .ok (.aload_n 0, 1) := by decide +kernel
theorem dX2_meet_49 : decode cX2_meet 49 = .ok (.getfield 25, 3) := by decide +kernel
theorem dX2_meet_52 : decode cX2_meet 52 = .ok (.iload_n 2, 1) := by decide +kernel
theorem dX2_meet_53 : decode cX2_meet 53 = .ok (.iaload, 1) := by decide +kernel
theorem dX2_meet_54 : decode cX2_meet 54 = .ok (.invokestatic 74, 3) := by decide +kernel
theorem dX2_meet_57 : decode cX2_meet 57 = .ok (.ifCond .eq 25, 3) := by decide +kernel
theorem dX2_meet_60 : decode cX2_meet 60 = .ok (.aload_n 0, 1) := by decide +kernel
theorem dX2_meet_61 : decode cX2_meet 61 = .ok (.iload_n 1, 1) := by decide +kernel
theorem dX2_meet_62 : decode cX2_meet 62 = .ok (.iload_n 2, 1) := by decide +kernel
theorem dX2_meet_63 : decode cX2_meet 63 = .ok (.invokevirtual 78, 3) := by decide +kernel
theorem dX2_meet_66 : decode cX2_meet 66 = .ok (.ifCond .eq 16, 3) := by decide +kernel
theorem dX2_meet_69 : decode cX2_meet 69 = .ok (.aload_n 0, 1) := by decide +kernel
theorem dX2_meet_70 : decode cX2_meet 70 = .ok (.iload_n 2, 1) := by decide +kernel
theorem dX2_meet_71 : decode cX2_meet 71 = .ok (.iload_n 1, 1) := by decide +kernel
theorem dX2_meet_72 : decode cX2_meet 72 = .ok (.invokevirtual 78, 3) := by decide +kernel
theorem dX2_meet_75 : decode cX2_meet 75 = .ok (.ifCond .eq 7, 3) := by decide +kernel
theorem dX2_meet_78 : decode cX2_meet 78 = .ok (.iconst 1, 1) := by decide +kernel
theorem dX2_meet_79 : decode cX2_meet 79 = .ok (.goto 4, 3) := by decide +kernel
theorem dX2_meet_82 : decode cX2_meet 82 = .ok (.iconst 0, 1) := by decide +kernel
theorem dX2_meet_83 : decode cX2_meet 83 = .ok (.ireturn, 1) := by decide +kernel
theorem dX2_spansMeet_0 : decode cX2_spansMeet 0 = .ok (.iload_n 0, 1) := by decide +kernel
theorem dX2_spansMeet_1 : decode cX2_spansMeet 1 = .ok (.iload_n 1, 1) := by decide +kernel
theorem dX2_spansMeet_2 : decode cX2_spansMeet 2 = .ok (.invokestatic 81, 3) := by decide +kernel
theorem dX2_spansMeet_5 : decode cX2_spansMeet 5 = .ok (.iload_n 2, 1) := by decide +kernel
theorem dX2_spansMeet_6 : decode cX2_spansMeet 6 = .ok (.iload_n 3, 1) := by decide +kernel
theorem dX2_spansMeet_7 : decode cX2_spansMeet 7 = .ok (.invokestatic 81, 3) := by decide +kernel
theorem dX2_spansMeet_10 : decode cX2_spansMeet 10 = .ok (.invokestatic 87, 3) := by decide +kernel
theorem dX2_spansMeet_13 : decode cX2_spansMeet 13 = .ok (.iload_n 0, 1) := by decide +kernel
theorem dX2_spansMeet_14 : decode cX2_spansMeet 14 = .ok (.iload_n 1, 1) := by decide +kernel
theorem dX2_spansMeet_15 : decode cX2_spansMeet 15 = .ok (.invokestatic 87, 3) := by decide +kernel
theorem dX2_spansMeet_18 : decode cX2_spansMeet 18 = .ok (.iload_n 2, 1) := by decide +kernel
theorem dX2_spansMeet_19 : decode cX2_spansMeet 19 = .ok (.iload_n 3, 1) := by decide +kernel
theorem dX2_spansMeet_20 : decode cX2_spansMeet 20 = .ok (.invokestatic 87, 3) := by decide +kernel
theorem dX2_spansMeet_23 : decode cX2_spansMeet 23 = .ok (.invokestatic 81, 3) := by decide +kernel
theorem dX2_spansMeet_26 : decode cX2_spansMeet 26 = .ok (.if_icmp .gt 7, 3) := by decide +kernel
theorem dX2_spansMeet_29 : decode cX2_spansMeet 29 = .ok (.iconst 1, 1) := by decide +kernel
theorem dX2_spansMeet_30 : decode cX2_spansMeet 30 = .ok (.goto 4, 3) := by decide +kernel
theorem dX2_spansMeet_33 : decode cX2_spansMeet 33 = .ok (.iconst 0, 1) := by decide +kernel
theorem dX2_spansMeet_34 : decode cX2_spansMeet 34 = .ok (.ireturn, 1) := by decide +kernel
theorem dX2_reachesAcross_0 : decode cX2_reachesAcross 0 = .ok (.aload_n 0, 1) := by decide +kernel
theorem dX2_reachesAcross_1 : decode cX2_reachesAcross 1 = .ok (.getfield 22, 3) := by decide +kernel
theorem dX2_reachesAcross_4 : decode cX2_reachesAcross 4 = .ok (.iload_n 2, 1) := by decide +kernel
theorem dX2_reachesAcross_5 : decode cX2_reachesAcross 5 = .ok (.iaload, 1) := by decide +kernel
theorem dX2_reachesAcross_6 : decode cX2_reachesAcross 6 = .ok (.aload_n 0, 1) := by decide +kernel
theorem dX2_reachesAcross_7 : decode cX2_reachesAcross 7 = .ok (.getfield 15, 3) := by decide +kernel
theorem dX2_reachesAcross_10 : decode cX2_reachesAcross 10 = .ok (.iload_n 2, 1) := by decide +kernel
theorem dX2_reachesAcross_11 : decode cX2_reachesAcross 11 = .ok (.iaload, 1) := by decide +kernel
theorem dX2_reachesAcross_12 : decode cX2_reachesAcross 12 = .ok (.isub, 1) := by decide +kernel
theorem dX2_reachesAcross_13 : decode cX2_reachesAcross 13 = .ok (.istore_n 3, 1) := by decide +kernel
theorem dX2_reachesAcross_14 : decode cX2_reachesAcross 14 = .ok (.aload_n 0, 1) := by decide +kernel
theorem dX2_reachesAcross_15 : decode cX2_reachesAcross 15 = .ok (.getfield 25, 3) := by decide +kernel
theorem dX2_reachesAcross_18 : decode cX2_reachesAcross 18 = .ok (.iload_n 2, 1) := by decide +kernel
theorem dX2_reachesAcross_19 : decode cX2_reachesAcross 19 = .ok (.iaload, 1) := by decide +kernel
theorem dX2_reachesAcross_20 : decode cX2_reachesAcross 20 = .ok (.aload_n 0, 1) := by decide +kernel
theorem dX2_reachesAcross_21 : decode cX2_reachesAcross 21 = .ok (.getfield 19, 3) := by decide +kernel
theorem dX2_reachesAcross_24 : decode cX2_reachesAcross 24 = .ok (.iload_n 2, 1) := by decide +kernel
theorem dX2_reachesAcross_25 : decode cX2_reachesAcross 25 = .ok (.iaload, 1) := by decide +kernel
theorem dX2_reachesAcross_26 : decode cX2_reachesAcross 26 = .ok (.isub, 1) := by decide +kernel
theorem dX2_reachesAcross_27 : decode cX2_reachesAcross 27 = .ok (.istore 4, 2) := by decide +kernel
theorem dX2_reachesAcross_29 : decode cX2_reachesAcross 29 = .ok (.iload_n 3, 1) := by decide +kernel
theorem dX2_reachesAcross_30 : decode cX2_reachesAcross 30 = .ok (.aload_n 0, 1) := by decide +kernel
theorem dX2_reachesAcross_31 : decode cX2_reachesAcross 31 = .ok (.getfield 19, 3) := by decide +kernel
theorem dX2_reachesAcross_34 : decode cX2_reachesAcross 34 = .ok (.iload_n 1, 1) := by decide +kernel
theorem dX2_reachesAcross_35 : decode cX2_reachesAcross 35 = .ok (.iaload, 1) := by decide +kernel
theorem dX2_reachesAcross_36 : decode cX2_reachesAcross 36 = .ok (.aload_n 0, 1) := by decide +kernel
theorem dX2_reachesAcross_37 : decode cX2_reachesAcross 37 = .ok (.getfield 19, 3) := by decide +kernel
theorem dX2_reachesAcross_40 : decode cX2_reachesAcross 40 = .ok (.iload_n 2, 1) := by decide +kernel
theorem dX2_reachesAcross_41 : decode cX2_reachesAcross 41 = .ok (.iaload, 1) := by decide +kernel
theorem dX2_reachesAcross_42 : decode cX2_reachesAcross 42 = .ok (.isub, 1) := by decide +kernel
theorem dX2_reachesAcross_43 : decode cX2_reachesAcross 43 = .ok (.imul, 1) := by decide +kernel
theorem dX2_reachesAcross_44 : decode cX2_reachesAcross 44 = .ok (.iload 4, 2) := by decide +kernel
theorem dX2_reachesAcross_46 : decode cX2_reachesAcross 46 = .ok (.aload_n 0, 1) := by decide +kernel
theorem dX2_reachesAcross_47 : decode cX2_reachesAcross 47 = .ok (.getfield 15, 3) := by decide +kernel
theorem dX2_reachesAcross_50 : decode cX2_reachesAcross 50 = .ok (.iload_n 1, 1) := by decide +kernel
theorem dX2_reachesAcross_51 : decode cX2_reachesAcross 51 = .ok (.iaload, 1) := by decide +kernel
theorem dX2_reachesAcross_52 : decode cX2_reachesAcross 52 = .ok (.aload_n 0, 1) := by decide +kernel
theorem dX2_reachesAcross_53 : decode cX2_reachesAcross 53 = .ok (.getfield 15, 3) := by decide +kernel
theorem dX2_reachesAcross_56 : decode cX2_reachesAcross 56 = .ok (.iload_n 2, 1) := by decide +kernel
theorem dX2_reachesAcross_57 : decode cX2_reachesAcross 57 = .ok (.iaload, 1) := by decide +kernel
theorem dX2_reachesAcross_58 : decode cX2_reachesAcross 58 = .ok (.isub, 1) := by decide +kernel
theorem dX2_reachesAcross_59 : decode cX2_reachesAcross 59 = .ok (.imul, 1) := by decide +kernel
theorem dX2_reachesAcross_60 : decode cX2_reachesAcross 60 = .ok (.isub, 1) := by decide +kernel
theorem dX2_reachesAcross_61 : decode cX2_reachesAcross 61 = .ok (.istore 5, 2) := by decide +kernel
theorem dX2_reachesAcross_63 : decode cX2_reachesAcross 63 = .ok (.iload_n 3, 1) := by decide +kernel
theorem dX2_reachesAcross_64 : decode cX2_reachesAcross 64 = .ok (.aload_n 0, 1) := by decide +kernel
theorem dX2_reachesAcross_65 : decode cX2_reachesAcross 65 = .ok (.getfield 25, 3) := by decide +kernel
theorem dX2_reachesAcross_68 : decode cX2_reachesAcross 68 = .ok (.iload_n 1, 1) := by decide +kernel
theorem dX2_reachesAcross_69 : decode cX2_reachesAcross 69 = .ok (.iaload, 1) := by decide +kernel
theorem dX2_reachesAcross_70 : decode cX2_reachesAcross 70 = .ok (.aload_n 0, 1) := by decide +kernel
theorem dX2_reachesAcross_71 : decode cX2_reachesAcross 71 = .ok (.getfield 19, 3) := by decide +kernel
theorem dX2_reachesAcross_74 : decode cX2_reachesAcross 74 = .ok (.iload_n 2, 1) := by decide +kernel
theorem dX2_reachesAcross_75 : decode cX2_reachesAcross 75 = .ok (.iaload, 1) := by decide +kernel
theorem dX2_reachesAcross_76 : decode cX2_reachesAcross 76 = .ok (.isub, 1) := by decide +kernel
theorem dX2_reachesAcross_77 : decode cX2_reachesAcross 77 = .ok (.imul, 1) := by decide +kernel
theorem dX2_reachesAcross_78 : decode cX2_reachesAcross 78 = .ok (.iload 4, 2) := by decide +kernel
theorem dX2_reachesAcross_80 : decode cX2_reachesAcross 80 = .ok (.aload_n 0, 1) := by decide +kernel
theorem dX2_reachesAcross_81 : decode cX2_reachesAcross 81 = .ok (.getfield 22, 3) := by decide +kernel
theorem dX2_reachesAcross_84 : decode cX2_reachesAcross 84 = .ok (.iload_n 1, 1) := by decide +kernel
theorem dX2_reachesAcross_85 : decode cX2_reachesAcross 85 = .ok (.iaload, 1) := by decide +kernel
theorem dX2_reachesAcross_86 : decode cX2_reachesAcross 86 = .ok (.aload_n 0, 1) := by decide +kernel
theorem dX2_reachesAcross_87 : decode cX2_reachesAcross 87 = .ok (.getfield 15, 3) := by decide +kernel
theorem dX2_reachesAcross_90 : decode cX2_reachesAcross 90 = .ok (.iload_n 2, 1) := by decide +kernel
theorem dX2_reachesAcross_91 : decode cX2_reachesAcross 91 = .ok (.iaload, 1) := by decide +kernel
theorem dX2_reachesAcross_92 : decode cX2_reachesAcross 92 = .ok (.isub, 1) := by decide +kernel
theorem dX2_reachesAcross_93 : decode cX2_reachesAcross 93 = .ok (.imul, 1) := by decide +kernel
theorem dX2_reachesAcross_94 : decode cX2_reachesAcross 94 = .ok (.isub, 1) := by decide +kernel
theorem dX2_reachesAcross_95 : decode cX2_reachesAcross 95 = .ok (.istore 6, 2) := by decide +kernel
theorem dX2_reachesAcross_97 : decode cX2_reachesAcross 97 = .ok (.iload 5, 2) := by decide +kernel
theorem dX2_reachesAcross_99 : decode cX2_reachesAcross 99 = .ok (.iload 6, 2) := by decide +kernel
theorem dX2_reachesAcross_101 : decode cX2_reachesAcross 101 = .ok (.imul, 1) := by decide +kernel
theorem dX2_reachesAcross_102 : decode cX2_reachesAcross 102 = .ok (.ifCond .gt 7, 3) := by decide +kernel
theorem dX2_reachesAcross_105 : decode cX2_reachesAcross 105 = .ok (.iconst 1, 1) := by decide +kernel
theorem dX2_reachesAcross_106 : decode cX2_reachesAcross 106 = .ok (.goto 4, 3) := by decide +kernel
theorem dX2_reachesAcross_109 : decode cX2_reachesAcross 109 = .ok (.iconst 0, 1) := by decide +kernel
theorem dX2_reachesAcross_110 : decode cX2_reachesAcross 110 = .ok (.ireturn, 1) := by decide +kernel
theorem dX2_isDrawnWithEnd_0 : decode cX2_isDrawnWithEnd 0 = .ok (.aload_n 0, 1) := by decide +kernel
theorem dX2_isDrawnWithEnd_1 : decode cX2_isDrawnWithEnd 1 = .ok (.iload_n 1, 1) := by decide +kernel
theorem dX2_isDrawnWithEnd_2 : decode cX2_isDrawnWithEnd 2 = .ok (.invokevirtual 66, 3) := by decide +kernel
theorem dX2_isDrawnWithEnd_5 : decode cX2_isDrawnWithEnd 5 = .ok (.ifCond .eq 47, 3) := by decide +kernel
theorem dX2_isDrawnWithEnd_8 : decode cX2_isDrawnWithEnd 8 = .ok (.aload_n 0, 1) := by decide +kernel
theorem dX2_isDrawnWithEnd_9 : decode cX2_isDrawnWithEnd 9 = .ok (.getfield 15, 3) := by decide +kernel
theorem dX2_isDrawnWithEnd_12 : decode cX2_isDrawnWithEnd 12 = .ok (.iload_n 1, 1) := by decide +kernel
theorem dX2_isDrawnWithEnd_13 : decode cX2_isDrawnWithEnd 13 = .ok (.iaload, 1) := by decide +kernel
theorem dX2_isDrawnWithEnd_14 : decode cX2_isDrawnWithEnd 14 = .ok (.iload_n 2, 1) := by decide +kernel
theorem dX2_isDrawnWithEnd_15 : decode cX2_isDrawnWithEnd 15 = .ok (.if_icmp .ne 13, 3) := by decide +kernel
theorem dX2_isDrawnWithEnd_18 : decode cX2_isDrawnWithEnd 18 = .ok (.aload_n 0, 1) := by decide +kernel
theorem dX2_isDrawnWithEnd_19 : decode cX2_isDrawnWithEnd 19 = .ok (.getfield 19, 3) := by decide +kernel
theorem dX2_isDrawnWithEnd_22 : decode cX2_isDrawnWithEnd 22 = .ok (.iload_n 1, 1) := by decide +kernel
theorem dX2_isDrawnWithEnd_23 : decode cX2_isDrawnWithEnd 23 = .ok (.iaload, 1) := by decide +kernel
theorem dX2_isDrawnWithEnd_24 : decode cX2_isDrawnWithEnd 24 = .ok (.iload_n 3, 1) := by decide +kernel
theorem dX2_isDrawnWithEnd_25 : decode cX2_isDrawnWithEnd 25 = .ok (.if_icmp .eq 23, 3) := by decide +kernel
theorem dX2_isDrawnWithEnd_28 : decode cX2_isDrawnWithEnd 28 = .ok (.aload_n 0, 1) := by decide +kernel
theorem dX2_isDrawnWithEnd_29 : decode cX2_isDrawnWithEnd 29 = .ok (.getfield 22, 3) := by decide +kernel
theorem dX2_isDrawnWithEnd_32 : decode cX2_isDrawnWithEnd 32 = .ok (.iload_n 1, 1) := by decide +kernel
theorem dX2_isDrawnWithEnd_33 : decode cX2_isDrawnWithEnd 33 = .ok (.iaload, 1) := by decide +kernel
theorem dX2_isDrawnWithEnd_34 : decode cX2_isDrawnWithEnd 34 = .ok (.iload_n 2, 1) := by decide +kernel
theorem dX2_isDrawnWithEnd_35 : decode cX2_isDrawnWithEnd 35 = .ok (.if_icmp .ne 17, 3) := by decide +kernel
theorem dX2_isDrawnWithEnd_38 : decode cX2_isDrawnWithEnd 38 = .ok (.aload_n 0, 1) := by decide +kernel
theorem dX2_isDrawnWithEnd_39 : decode cX2_isDrawnWithEnd 39 = .ok (.getfield 25, 3) := by decide +kernel
theorem dX2_isDrawnWithEnd_42 : decode cX2_isDrawnWithEnd 42 = .ok (.iload_n 1, 1) := by decide +kernel
theorem dX2_isDrawnWithEnd_43 : decode cX2_isDrawnWithEnd 43 = .ok (.iaload, 1) := by decide +kernel
theorem dX2_isDrawnWithEnd_44 : decode cX2_isDrawnWithEnd 44 = .ok (.iload_n 3, 1) := by decide +kernel
theorem dX2_isDrawnWithEnd_45 : decode cX2_isDrawnWithEnd 45 = .ok (.if_icmp .ne 7, 3) := by decide +kernel
theorem dX2_isDrawnWithEnd_48 : decode cX2_isDrawnWithEnd 48 = .ok (.iconst 1, 1) := by decide +kernel
theorem dX2_isDrawnWithEnd_49 : decode cX2_isDrawnWithEnd 49 = .ok (.goto 4, 3) := by decide +kernel
theorem dX2_isDrawnWithEnd_52 : decode cX2_isDrawnWithEnd 52 = .ok (.iconst 0, 1) := by decide +kernel
theorem dX2_isDrawnWithEnd_53 : decode cX2_isDrawnWithEnd 53 = .ok (.ireturn, 1) := by decide +kernel
theorem dX2_firstDrawnWithEnd_0 : decode cX2_firstDrawnWithEnd 0 = .ok (.iconst 0, 1) := by decide +kernel
theorem dX2_firstDrawnWithEnd_1 : decode cX2_firstDrawnWithEnd 1 = .ok (.istore_n 3, 1) := by decide +kernel
theorem dX2_firstDrawnWithEnd_2 : decode cX2_firstDrawnWithEnd 2 = .ok (.iload_n 3, 1) := by decide +kernel
theorem dX2_firstDrawnWithEnd_3 : decode cX2_firstDrawnWithEnd 3 = .ok (.aload_n 0, 1) := by decide +kernel
theorem dX2_firstDrawnWithEnd_4 : decode cX2_firstDrawnWithEnd 4 = .ok (.getfield 9, 3) := by decide +kernel
theorem dX2_firstDrawnWithEnd_7 : decode cX2_firstDrawnWithEnd 7 = .ok (.if_icmp .ge 21, 3) := by decide +kernel
theorem dX2_firstDrawnWithEnd_10 : decode cX2_firstDrawnWithEnd 10 = .ok (.aload_n 0, 1) := by decide +kernel
theorem dX2_firstDrawnWithEnd_11 : decode cX2_firstDrawnWithEnd 11 = .ok (.iload_n 3, 1) := by decide +kernel
theorem dX2_firstDrawnWithEnd_12 : decode cX2_firstDrawnWithEnd 12 = .ok (.iload_n 1, 1) := by decide +kernel
theorem dX2_firstDrawnWithEnd_13 : decode cX2_firstDrawnWithEnd 13 = .ok (.iload_n 2, 1) := by decide +kernel
theorem dX2_firstDrawnWithEnd_14 : decode cX2_firstDrawnWithEnd 14 = .ok (.invokevirtual 90, 3) := by decide +kernel
theorem dX2_firstDrawnWithEnd_17 : decode cX2_firstDrawnWithEnd 17 = .ok (.ifCond .eq 5, 3) := by decide +kernel
theorem dX2_firstDrawnWithEnd_20 : decode cX2_firstDrawnWithEnd 20 = .ok (.iload_n 3, 1) := by decide +kernel
theorem dX2_firstDrawnWithEnd_21 : decode cX2_firstDrawnWithEnd 21 = .ok (.ireturn, 1) := by decide +kernel
theorem dX2_firstDrawnWithEnd_22 : decode cX2_firstDrawnWithEnd 22 = .ok (.iinc 3 1, 3) := by decide +kernel
theorem dX2_firstDrawnWithEnd_25 : decode cX2_firstDrawnWithEnd 25 = .ok (.goto (-23), 3) := by decide +kernel
theorem dX2_firstDrawnWithEnd_28 : decode cX2_firstDrawnWithEnd 28 = .ok (.iconst (-1), 1) := by decide +kernel
theorem dX2_firstDrawnWithEnd_29 : decode cX2_firstDrawnWithEnd 29 = .ok (.ireturn, 1) := by decide +kernel
theorem dX2_endsThereByAnother_0 : decode cX2_endsThereByAnother 0 = .ok (.iconst 0, 1) := by decide +kernel
theorem dX2_endsThereByAnother_1 : decode cX2_endsThereByAnother 1 = .ok (.istore 4, 2) := by decide +kernel
theorem dX2_endsThereByAnother_3 : decode cX2_endsThereByAnother 3 = .ok (.iload 4, 2) := by decide +kernel
theorem dX2_endsThereByAnother_5 : decode cX2_endsThereByAnother 5 = .ok (.aload_n 0, 1) := by decide +kernel
theorem dX2_endsThereByAnother_6 : decode cX2_endsThereByAnother 6 = .ok (.getfield 9, 3) := by decide +kernel
theorem dX2_endsThereByAnother_9 : decode cX2_endsThereByAnother 9 = .ok (.if_icmp .ge 33, 3) := by decide +kernel
theorem dX2_endsThereByAnother_12 : decode cX2_endsThereByAnother 12 = .ok (.aload_n 0, 1) := by decide +kernel
theorem dX2_endsThereByAnother_13 : decode cX2_endsThereByAnother 13 = .ok (.iload 4, 2) := by decide +kernel
theorem dX2_endsThereByAnother_15 : decode cX2_endsThereByAnother 15 = .ok (.iload_n 1, 1) := by decide +kernel
theorem dX2_endsThereByAnother_16 : decode cX2_endsThereByAnother 16 = .ok (.iload_n 2, 1) := by decide +kernel
theorem dX2_endsThereByAnother_17 : decode cX2_endsThereByAnother 17 = .ok (.invokevirtual 90, 3) := by decide +kernel
theorem dX2_endsThereByAnother_20 : decode cX2_endsThereByAnother 20 = .ok (.ifCond .eq 16, 3) := by decide +kernel
theorem dX2_endsThereByAnother_23 : decode cX2_endsThereByAnother 23 = .ok (.aload_n 0, 1) := by decide +kernel
theorem dX2_endsThereByAnother_24 : decode cX2_endsThereByAnother 24 = .ok (.getfield 34, 3) := by decide +kernel
theorem dX2_endsThereByAnother_27 : decode cX2_endsThereByAnother 27 = .ok (.iload 4, 2) := by decide +kernel
theorem dX2_endsThereByAnother_29 : decode cX2_endsThereByAnother 29 = .ok (.iaload, 1) := by decide +kernel
theorem dX2_endsThereByAnother_30 : decode cX2_endsThereByAnother 30 = .ok (.iload_n 3, 1) := by decide +kernel
theorem dX2_endsThereByAnother_31 : decode cX2_endsThereByAnother 31 = .ok (.if_icmp .eq 5, 3) := by decide +kernel
theorem dX2_endsThereByAnother_34 : decode cX2_endsThereByAnother 34 = .ok (.iconst 1, 1) := by decide +kernel
theorem dX2_endsThereByAnother_35 : decode cX2_endsThereByAnother 35 = .ok (.ireturn, 1) := by decide +kernel
theorem dX2_endsThereByAnother_36 : decode cX2_endsThereByAnother 36 = .ok (.iinc 4 1, 3) := by decide +kernel
theorem dX2_endsThereByAnother_39 : decode cX2_endsThereByAnother 39 = .ok (.goto (-36), 3) := by decide +kernel
theorem dX2_endsThereByAnother_42 : decode cX2_endsThereByAnother 42 = .ok (.iconst 0, 1) := by decide +kernel
theorem dX2_endsThereByAnother_43 : decode cX2_endsThereByAnother 43 = .ok (.ireturn, 1) := by decide +kernel
theorem dX2_isSeam_0 : decode cX2_isSeam 0 = .ok (.aload_n 0, 1) := by decide +kernel
theorem dX2_isSeam_1 : decode cX2_isSeam 1 = .ok (.iload_n 1, 1) := by decide +kernel
theorem dX2_isSeam_2 : decode cX2_isSeam 2 = .ok (.iload_n 2, 1) := by decide +kernel
theorem dX2_isSeam_3 : decode cX2_isSeam 3 = .ok (.invokevirtual 93, 3) := by decide +kernel
theorem dX2_isSeam_6 : decode cX2_isSeam 6 = .ok (.istore_n 3, 1) := by decide +kernel
theorem dX2_isSeam_7 : decode cX2_isSeam 7 = .ok (.iload_n 3, 1) := by decide +kernel
theorem dX2_isSeam_8 : decode cX2_isSeam 8 = .ok (.iconst (-1), 1) := by decide +kernel
theorem dX2_isSeam_9 : decode cX2_isSeam 9 = .ok (.if_icmp .eq 22, 3) := by decide +kernel
theorem dX2_isSeam_12 : decode cX2_isSeam 12 = .ok (.aload_n 0, 1) := by decide +kernel
theorem dX2_isSeam_13 : decode cX2_isSeam 13 = .ok (.iload_n 1, 1) := by decide +kernel
theorem dX2_isSeam_14 : decode cX2_isSeam 14 = .ok (.iload_n 2, 1) := by decide +kernel
theorem dX2_isSeam_15 : decode cX2_isSeam 15 = .ok (.aload_n 0, 1) := by decide +kernel
theorem dX2_isSeam_16 : decode cX2_isSeam 16 = .ok (.getfield 34, 3) := by decide +kernel
theorem dX2_isSeam_19 : decode cX2_isSeam 19 = .ok (.iload_n 3, 1) := by decide +kernel
theorem dX2_isSeam_20 : decode cX2_isSeam 20 = .ok (.iaload, 1) := by decide +kernel
theorem dX2_isSeam_21 : decode cX2_isSeam 21 = .ok (.invokevirtual 96, 3) := by decide +kernel
theorem dX2_isSeam_24 : decode cX2_isSeam 24 = .ok (.ifCond .eq 7, 3) := by decide +kernel
theorem dX2_isSeam_27 : decode cX2_isSeam 27 = .ok (.iconst 1, 1) := by decide +kernel
theorem dX2_isSeam_28 : decode cX2_isSeam 28 = .ok (.goto 4, 3) := by decide +kernel
theorem dX2_isSeam_31 : decode cX2_isSeam 31 = .ok (.iconst 0, 1) := by decide +kernel
theorem dX2_isSeam_32 : decode cX2_isSeam 32 = .ok (.ireturn, 1) := by decide +kernel
theorem dX2_seamsFirstMetAt_0 : decode cX2_seamsFirstMetAt 0 = .ok (.aload_n 0, 1) := by decide +kernel
theorem dX2_seamsFirstMetAt_1 : decode cX2_seamsFirstMetAt 1 = .ok (.aload_n 0, 1) := by decide +kernel
theorem dX2_seamsFirstMetAt_2 : decode cX2_seamsFirstMetAt 2 = .ok (.getfield 15, 3) := by decide +kernel
theorem dX2_seamsFirstMetAt_5 : decode cX2_seamsFirstMetAt 5 = .ok (.iload_n 1, 1) := by decide +kernel
theorem dX2_seamsFirstMetAt_6 : decode cX2_seamsFirstMetAt 6 = .ok (.iaload, 1) := by decide +kernel
theorem dX2_seamsFirstMetAt_7 : decode cX2_seamsFirstMetAt 7 = .ok (.aload_n 0, 1) := by decide +kernel
theorem dX2_seamsFirstMetAt_8 : decode cX2_seamsFirstMetAt 8 = .ok (.getfield 19, 3) := by decide +kernel
theorem dX2_seamsFirstMetAt_11 : decode cX2_seamsFirstMetAt 11 = .ok (.iload_n 1, 1) := by decide +kernel
theorem dX2_seamsFirstMetAt_12 : decode cX2_seamsFirstMetAt 12 = .ok (.iaload, 1) := by decide +kernel
theorem dX2_seamsFirstMetAt_13 : decode cX2_seamsFirstMetAt 13 = .ok (.invokevirtual 93, 3) := by decide +kernel
theorem dX2_seamsFirstMetAt_16 : decode cX2_seamsFirstMetAt 16 = .ok (.iload_n 1, 1) := by decide +kernel
theorem dX2_seamsFirstMetAt_17 : decode cX2_seamsFirstMetAt 17 = .ok (.if_icmp .ne 26, 3) := by decide +kernel
theorem dX2_seamsFirstMetAt_20 : decode cX2_seamsFirstMetAt 20 = .ok (.aload_n 0, 1) := by decide +kernel
theorem dX2_seamsFirstMetAt_21 : decode cX2_seamsFirstMetAt 21 = .ok (.aload_n 0, 1) := by decide +kernel
theorem dX2_seamsFirstMetAt_22 : decode cX2_seamsFirstMetAt 22 = .ok (.getfield 15, 3) := by decide +kernel
theorem dX2_seamsFirstMetAt_25 : decode cX2_seamsFirstMetAt 25 = .ok (.iload_n 1, 1) := by decide +kernel
theorem dX2_seamsFirstMetAt_26 : decode cX2_seamsFirstMetAt 26 = .ok (.iaload, 1) := by decide +kernel
theorem dX2_seamsFirstMetAt_27 : decode cX2_seamsFirstMetAt 27 = .ok (.aload_n 0, 1) := by decide +kernel
theorem dX2_seamsFirstMetAt_28 : decode cX2_seamsFirstMetAt 28 = .ok (.getfield 19, 3) := by decide +kernel
theorem dX2_seamsFirstMetAt_31 : decode cX2_seamsFirstMetAt 31 = .ok (.iload_n 1, 1) := by decide +kernel
theorem dX2_seamsFirstMetAt_32 : decode cX2_seamsFirstMetAt 32 = .ok (.iaload, 1) := by decide +kernel
theorem dX2_seamsFirstMetAt_33 : decode cX2_seamsFirstMetAt 33 = .ok (.invokevirtual 99, 3) := by decide +kernel
theorem dX2_seamsFirstMetAt_36 : decode cX2_seamsFirstMetAt 36 = .ok (.ifCond .eq 7, 3) := by decide +kernel
theorem dX2_seamsFirstMetAt_39 : decode cX2_seamsFirstMetAt 39 = .ok (.iconst 1, 1) := by decide +kernel
theorem dX2_seamsFirstMetAt_40 : decode cX2_seamsFirstMetAt 40 = .ok (.goto 4, 3) := by decide +kernel
theorem dX2_seamsFirstMetAt_43 : decode cX2_seamsFirstMetAt 43 = .ok (.iconst 0, 1) := by decide +kernel
theorem dX2_seamsFirstMetAt_44 : decode cX2_seamsFirstMetAt 44 = .ok (.invokestatic 70, 3) := by decide +kernel
theorem dX2_seamsFirstMetAt_47 : decode cX2_seamsFirstMetAt 47 = .ok (.aload_n 0, 1) := by decide +kernel
theorem dX2_seamsFirstMetAt_48 : decode cX2_seamsFirstMetAt 48 = .ok (.aload_n 0, 1) := by decide +kernel
theorem dX2_seamsFirstMetAt_49 : decode cX2_seamsFirstMetAt 49 = .ok (.getfield 22, 3) := by decide +kernel
theorem dX2_seamsFirstMetAt_52 : decode cX2_seamsFirstMetAt 52 = .ok (.iload_n 1, 1) := by decide +kernel
theorem dX2_seamsFirstMetAt_53 : decode cX2_seamsFirstMetAt 53 = .ok (.iaload, 1) := by decide +kernel
theorem dX2_seamsFirstMetAt_54 : decode cX2_seamsFirstMetAt 54 = .ok (.aload_n 0, 1) := by decide +kernel
theorem dX2_seamsFirstMetAt_55 : decode cX2_seamsFirstMetAt 55 = .ok (.getfield 25, 3) := by decide +kernel
theorem dX2_seamsFirstMetAt_58 : decode cX2_seamsFirstMetAt 58 = .ok (.iload_n 1, 1) := by decide +kernel
theorem dX2_seamsFirstMetAt_59 : decode cX2_seamsFirstMetAt 59 = .ok (.iaload, 1) := by decide +kernel
theorem dX2_seamsFirstMetAt_60 : decode cX2_seamsFirstMetAt 60 = .ok (.invokevirtual 93, 3) := by decide +kernel
theorem dX2_seamsFirstMetAt_63 : decode cX2_seamsFirstMetAt 63 = .ok (.iload_n 1, 1) := by decide +kernel
theorem dX2_seamsFirstMetAt_64 : decode cX2_seamsFirstMetAt 64 = .ok (.if_icmp .ne 26, 3) := by decide +kernel
theorem dX2_seamsFirstMetAt_67 : decode cX2_seamsFirstMetAt 67 = .ok (.aload_n 0, 1) := by decide +kernel
theorem dX2_seamsFirstMetAt_68 : decode cX2_seamsFirstMetAt 68 = .ok (.aload_n 0, 1) := by decide +kernel
theorem dX2_seamsFirstMetAt_69 : decode cX2_seamsFirstMetAt 69 = .ok (.getfield 22, 3) := by decide +kernel
theorem dX2_seamsFirstMetAt_72 : decode cX2_seamsFirstMetAt 72 = .ok (.iload_n 1, 1) := by decide +kernel
theorem dX2_seamsFirstMetAt_73 : decode cX2_seamsFirstMetAt 73 = .ok (.iaload, 1) := by decide +kernel
theorem dX2_seamsFirstMetAt_74 : decode cX2_seamsFirstMetAt 74 = .ok (.aload_n 0, 1) := by decide +kernel
theorem dX2_seamsFirstMetAt_75 : decode cX2_seamsFirstMetAt 75 = .ok (.getfield 25, 3) := by decide +kernel
theorem dX2_seamsFirstMetAt_78 : decode cX2_seamsFirstMetAt 78 = .ok (.iload_n 1, 1) := by decide +kernel
theorem dX2_seamsFirstMetAt_79 : decode cX2_seamsFirstMetAt 79 = .ok (.iaload, 1) := by decide +kernel
theorem dX2_seamsFirstMetAt_80 : decode cX2_seamsFirstMetAt 80 = .ok (.invokevirtual 99, 3) := by decide +kernel
theorem dX2_seamsFirstMetAt_83 : decode cX2_seamsFirstMetAt 83 = .ok (.ifCond .eq 7, 3) := by decide +kernel
theorem dX2_seamsFirstMetAt_86 : decode cX2_seamsFirstMetAt 86 = .ok (.iconst 1, 1) := by decide +kernel
theorem dX2_seamsFirstMetAt_87 : decode cX2_seamsFirstMetAt 87 = .ok (.goto 4, 3) := by decide +kernel
theorem dX2_seamsFirstMetAt_90 : decode cX2_seamsFirstMetAt 90 = .ok (.iconst 0, 1) := by decide +kernel
theorem dX2_seamsFirstMetAt_91 : decode cX2_seamsFirstMetAt 91 = .ok (.invokestatic 70, 3) := by decide +kernel
theorem dX2_seamsFirstMetAt_94 : decode cX2_seamsFirstMetAt 94 = .ok (.iadd, 1) := by decide +kernel
theorem dX2_seamsFirstMetAt_95 : decode cX2_seamsFirstMetAt 95 = .ok (.ireturn, 1) := by decide +kernel
theorem dX3_init_0 : decode cX3_init 0 = .ok (.aload_n 0, 1) := by decide +kernel
theorem dX3_init_1 : decode cX3_init 1 = .ok (.invokespecial 3, 3) := by decide +kernel
theorem dX3_init_4 : decode cX3_init 4 = .ok (.aload_n 0, 1) := by decide +kernel
theorem dX3_init_5 : decode cX3_init 5 = .ok (.iconst 0, 1) := by decide +kernel
theorem dX3_init_6 : decode cX3_init 6 = .ok (.putfield 9, 3) := by decide +kernel
theorem dX3_init_9 : decode cX3_init 9 = .ok (.aload_n 0, 1) := by decide +kernel
theorem dX3_init_10 : decode cX3_init 10 = .ok (.bipush 60, 2) := by decide +kernel
theorem dX3_init_12 : decode cX3_init 12 = .ok (.newarray .int, 2) := by decide +kernel
theorem dX3_init_14 : decode cX3_init 14 = .ok (.putfield 15, 3) := by decide +kernel
theorem dX3_init_17 : decode cX3_init 17 = .ok (.aload_n 0, 1) := by decide +kernel
theorem dX3_init_18 : decode cX3_init 18 = .ok (.iconst 0, 1) := by decide +kernel
theorem dX3_init_19 : decode cX3_init 19 = .ok (.putfield 19, 3) := by decide +kernel
theorem dX3_init_22 : decode cX3_init 22 = .ok (.aload_n 0, 1) := by decide +kernel
theorem dX3_init_23 : decode cX3_init 23 = .ok (.iconst 0, 1) := by decide +kernel
theorem dX3_init_24 : decode cX3_init 24 = .ok (.putfield 22, 3) := by decide +kernel
theorem dX3_init_27 : decode cX3_init 27 = .ok (.aload_n 0, 1) := by decide +kernel
theorem dX3_init_28 : decode cX3_init 28 = .ok (.ldc 25, 2) := by decide +kernel
theorem dX3_init_30 : decode cX3_init 30 = .ok (.putfield 26, 3) := by decide +kernel
theorem dX3_init_33 : decode cX3_init 33 = .ok (.return_, 1) := by decide +kernel
theorem dX4_init_0 : decode cX4_init 0 = .ok (.aload_n 0, 1) := by decide +kernel
theorem dX4_init_1 : decode cX4_init 1 = .ok (.invokespecial 3, 3) := by decide +kernel
theorem dX4_init_4 : decode cX4_init 4 = .ok (.aload_n 0, 1) := by decide +kernel
theorem dX4_init_5 : decode cX4_init 5 = .ok (.iconst 0, 1) := by decide +kernel
theorem dX4_init_6 : decode cX4_init 6 = .ok (.putfield 9, 3) := by decide +kernel
theorem dX4_init_9 : decode cX4_init 9 = .ok (.aload_n 0, 1) := by decide +kernel
theorem dX4_init_10 : decode cX4_init 10 = .ok (.iconst 5, 1) := by decide +kernel
theorem dX4_init_11 : decode cX4_init 11 = .ok (.newarray .int, 2) := by decide +kernel
theorem dX4_init_13 : decode cX4_init 13 = .ok (.putfield 15, 3) := by decide +kernel
theorem dX4_init_16 : decode cX4_init 16 = .ok (.aload_n 0, 1) := by decide +kernel
theorem dX4_init_17 : decode cX4_init 17 = .ok (.iconst 5, 1) := by decide +kernel
theorem dX4_init_18 : decode cX4_init 18 = .ok (.newarray .int, 2) := by decide +kernel
theorem dX4_init_20 : decode cX4_init 20 = .ok (.putfield 19, 3) := by decide +kernel
theorem dX4_init_23 : decode cX4_init 23 = .ok (.aload_n 0, 1) := by decide +kernel
theorem dX4_init_24 : decode cX4_init 24 = .ok (.iconst 5, 1) := by decide +kernel
theorem dX4_init_25 : decode cX4_init 25 = .ok (.newarray .int, 2) := by decide +kernel
theorem dX4_init_27 : decode cX4_init 27 = .ok (.putfield 22, 3) := by decide +kernel
theorem dX4_init_30 : decode cX4_init 30 = .ok (.aload_n 0, 1) := by decide +kernel
theorem dX4_init_31 : decode cX4_init 31 = .ok (.iconst 5, 1) := by decide +kernel
theorem dX4_init_32 : decode cX4_init 32 = .ok (.newarray .int, 2) := by decide +kernel
theorem dX4_init_34 : decode cX4_init 34 = .ok (.putfield 25, 3) := by decide +kernel
theorem dX4_init_37 : decode cX4_init 37 = .ok (.aload_n 0, 1) := by decide +kernel
theorem dX4_init_38 : decode cX4_init 38 = .ok (.iconst 5, 1) := by decide +kernel
theorem dX4_init_39 : decode cX4_init 39 = .ok (.newarray .int, 2) := by decide +kernel
theorem dX4_init_41 : decode cX4_init 41 = .ok (.putfield 28, 3) := by decide +kernel
theorem dX4_init_44 : decode cX4_init 44 = .ok (.aload_n 0, 1) := by decide +kernel
theorem dX4_init_45 : decode cX4_init 45 = .ok (.iconst 5, 1) := by decide +kernel
theorem dX4_init_46 : decode cX4_init 46 = .ok (.newarray .int, 2) := by decide +kernel
theorem dX4_init_48 : decode cX4_init 48 = .ok (.putfield 31, 3) := by decide +kernel
theorem dX4_init_51 : decode cX4_init 51 = .ok (.aload_n 0, 1) := by decide +kernel
theorem dX4_init_52 : decode cX4_init 52 = .ok (.iconst 5, 1) := by decide +kernel
theorem dX4_init_53 : decode cX4_init 53 = .ok (.newarray .int, 2) := by decide +kernel
theorem dX4_init_55 : decode cX4_init 55 = .ok (.putfield 34, 3) := by decide +kernel
theorem dX4_init_58 : decode cX4_init 58 = .ok (.return_, 1) := by decide +kernel
theorem dX4_copyFrom_0 : decode cX4_copyFrom 0 = .ok (.aload_n 0, 1) := by decide +kernel
theorem dX4_copyFrom_1 : decode cX4_copyFrom 1 = .ok (.aload_n 1, 1) := by decide +kernel
theorem dX4_copyFrom_2 : decode cX4_copyFrom 2 = .ok (.getfield 9, 3) := by decide +kernel
theorem dX4_copyFrom_5 : decode cX4_copyFrom 5 = .ok (.putfield 9, 3) := by decide +kernel
theorem dX4_copyFrom_8 : decode cX4_copyFrom 8 = .ok (.aload_n 1, 1) := by decide +kernel
theorem dX4_copyFrom_9 : decode cX4_copyFrom 9 = .ok (.getfield 15, 3) := by decide +kernel
theorem dX4_copyFrom_12 : decode cX4_copyFrom 12 = .ok (.aload_n 0, 1) := by decide +kernel
theorem dX4_copyFrom_13 : decode cX4_copyFrom 13 = .ok (.getfield 15, 3) := by decide +kernel
theorem dX4_copyFrom_16 : decode cX4_copyFrom 16 = .ok (.invokestatic 37, 3) := by decide +kernel
theorem dX4_copyFrom_19 : decode cX4_copyFrom 19 = .ok (.aload_n 1, 1) := by decide +kernel
theorem dX4_copyFrom_20 : decode cX4_copyFrom 20 = .ok (.getfield 19, 3) := by decide +kernel
theorem dX4_copyFrom_23 : decode cX4_copyFrom 23 = .ok (.aload_n 0, 1) := by decide +kernel
theorem dX4_copyFrom_24 : decode cX4_copyFrom 24 = .ok (.getfield 19, 3) := by decide +kernel
theorem dX4_copyFrom_27 : decode cX4_copyFrom 27 = .ok (.invokestatic 37, 3) := by decide +kernel
theorem dX4_copyFrom_30 : decode cX4_copyFrom 30 = .ok (.aload_n 1, 1) := by decide +kernel
theorem dX4_copyFrom_31 : decode cX4_copyFrom 31 = .ok (.getfield 22, 3) := by decide +kernel
theorem dX4_copyFrom_34 : decode cX4_copyFrom 34 = .ok (.aload_n 0, 1) := by decide +kernel
theorem dX4_copyFrom_35 : decode cX4_copyFrom 35 = .ok (.getfield 22, 3) := by decide +kernel
theorem dX4_copyFrom_38 : decode cX4_copyFrom 38 = .ok (.invokestatic 37, 3) := by decide +kernel
theorem dX4_copyFrom_41 : decode cX4_copyFrom 41 = .ok (.aload_n 1, 1) := by decide +kernel
theorem dX4_copyFrom_42 : decode cX4_copyFrom 42 = .ok (.getfield 25, 3) := by decide +kernel
theorem dX4_copyFrom_45 : decode cX4_copyFrom 45 = .ok (.aload_n 0, 1) := by decide +kernel
theorem dX4_copyFrom_46 : decode cX4_copyFrom 46 = .ok (.getfield 25, 3) := by decide +kernel
theorem dX4_copyFrom_49 : decode cX4_copyFrom 49 = .ok (.invokestatic 37, 3) := by decide +kernel
theorem dX4_copyFrom_52 : decode cX4_copyFrom 52 = .ok (.aload_n 1, 1) := by decide +kernel
theorem dX4_copyFrom_53 : decode cX4_copyFrom 53 = .ok (.getfield 28, 3) := by decide +kernel
theorem dX4_copyFrom_56 : decode cX4_copyFrom 56 = .ok (.aload_n 0, 1) := by decide +kernel
theorem dX4_copyFrom_57 : decode cX4_copyFrom 57 = .ok (.getfield 28, 3) := by decide +kernel
theorem dX4_copyFrom_60 : decode cX4_copyFrom 60 = .ok (.invokestatic 37, 3) := by decide +kernel
theorem dX4_copyFrom_63 : decode cX4_copyFrom 63 = .ok (.aload_n 1, 1) := by decide +kernel
theorem dX4_copyFrom_64 : decode cX4_copyFrom 64 = .ok (.getfield 31, 3) := by decide +kernel
theorem dX4_copyFrom_67 : decode cX4_copyFrom 67 = .ok (.aload_n 0, 1) := by decide +kernel
theorem dX4_copyFrom_68 : decode cX4_copyFrom 68 = .ok (.getfield 31, 3) := by decide +kernel
theorem dX4_copyFrom_71 : decode cX4_copyFrom 71 = .ok (.invokestatic 37, 3) := by decide +kernel
theorem dX4_copyFrom_74 : decode cX4_copyFrom 74 = .ok (.aload_n 1, 1) := by decide +kernel
theorem dX4_copyFrom_75 : decode cX4_copyFrom 75 = .ok (.getfield 34, 3) := by decide +kernel
theorem dX4_copyFrom_78 : decode cX4_copyFrom 78 = .ok (.aload_n 0, 1) := by decide +kernel
theorem dX4_copyFrom_79 : decode cX4_copyFrom 79 = .ok (.getfield 34, 3) := by decide +kernel
theorem dX4_copyFrom_82 : decode cX4_copyFrom 82 = .ok (.invokestatic 37, 3) := by decide +kernel
theorem dX4_copyFrom_85 : decode cX4_copyFrom 85 = .ok (.return_, 1) := by decide +kernel
theorem dX4_has_0 : decode cX4_has 0 = .ok (.iload_n 1, 1) := by decide +kernel
theorem dX4_has_1 : decode cX4_has 1 = .ok (.iconst 0, 1) := by decide +kernel
theorem dX4_has_2 : decode cX4_has 2 = .ok (.aload_n 0, 1) := by decide +kernel
theorem dX4_has_3 : decode cX4_has 3 = .ok (.getfield 9, 3) := by decide +kernel
theorem dX4_has_6 : decode cX4_has 6 = .ok (.iconst 1, 1) := by decide +kernel
theorem dX4_has_7 : decode cX4_has 7 = .ok (.isub, 1) := by decide +kernel
theorem dX4_has_8 : decode cX4_has 8 = .ok (.invokestatic 41, 3) := by decide +kernel
theorem dX4_has_11 : decode cX4_has 11 = .ok (.ireturn, 1) := by decide +kernel
theorem dX4_isAway_0 : decode cX4_isAway 0 = .ok (.aload_n 0, 1) := by decide +kernel
theorem dX4_isAway_1 : decode cX4_isAway 1 = .ok (.getfield 34, 3) := by decide +kernel
theorem dX4_isAway_4 : decode cX4_isAway 4 = .ok (.iload_n 1, 1) := by decide +kernel
theorem dX4_isAway_5 : decode cX4_isAway 5 = .ok (.iaload, 1) := by decide +kernel
theorem dX4_isAway_6 : decode cX4_isAway 6 = .ok (.iconst 1, 1) := by decide +kernel
theorem dX4_isAway_7 : decode cX4_isAway 7 = .ok (.if_icmp .ne 7, 3) := by decide +kernel
theorem dX4_isAway_10 : decode cX4_isAway 10 = .ok (.iconst 1, 1) := by decide +kernel
theorem dX4_isAway_11 : decode cX4_isAway 11 = .ok (.goto 4, 3) := by decide +kernel
theorem dX4_isAway_14 : decode cX4_isAway 14 = .ok (.iconst 0, 1) := by decide +kernel
theorem dX4_isAway_15 : decode cX4_isAway 15 = .ok (.ireturn, 1) := by decide +kernel
theorem dX4_isPlaceOfAny_0 : decode cX4_isPlaceOfAny 0 = .ok (.iconst 0, 1) := by decide +kernel
theorem dX4_isPlaceOfAny_1 : decode cX4_isPlaceOfAny 1 = .ok (.istore_n 2, 1) := by decide +kernel
theorem dX4_isPlaceOfAny_2 : decode cX4_isPlaceOfAny 2 = .ok (.iload_n 2, 1) := by decide +kernel
theorem dX4_isPlaceOfAny_3 : decode cX4_isPlaceOfAny 3 = .ok (.aload_n 0, 1) := by decide +kernel
theorem dX4_isPlaceOfAny_4 : decode cX4_isPlaceOfAny 4 = .ok (.getfield 9, 3) := by decide +kernel
theorem dX4_isPlaceOfAny_7 : decode cX4_isPlaceOfAny 7 = .ok (.if_icmp .ge 21, 3) := by decide +kernel
theorem dX4_isPlaceOfAny_10 : decode cX4_isPlaceOfAny 10 = .ok (.aload_n 0, 1) := by decide +kernel
theorem dX4_isPlaceOfAny_11 : decode cX4_isPlaceOfAny 11 = .ok (.getfield 22, 3) := by decide +kernel
theorem dX4_isPlaceOfAny_14 : decode cX4_isPlaceOfAny 14 = .ok (.iload_n 2, 1) := by decide +kernel
theorem dX4_isPlaceOfAny_15 : decode cX4_isPlaceOfAny 15 = .ok (.iaload, 1) := by decide +kernel
theorem dX4_isPlaceOfAny_16 : decode cX4_isPlaceOfAny 16 = .ok (.iload_n 1, 1) := by decide +kernel
theorem dX4_isPlaceOfAny_17 : decode cX4_isPlaceOfAny 17 = .ok (.if_icmp .ne 5, 3) := by decide +kernel
theorem dX4_isPlaceOfAny_20 : decode cX4_isPlaceOfAny 20 = .ok (.iconst 1, 1) := by decide +kernel
theorem dX4_isPlaceOfAny_21 : decode cX4_isPlaceOfAny 21 = .ok (.ireturn, 1) := by decide +kernel
theorem dX4_isPlaceOfAny_22 : decode cX4_isPlaceOfAny 22 = .ok (.iinc 2 1, 3) := by decide +kernel
theorem dX4_isPlaceOfAny_25 : decode cX4_isPlaceOfAny 25 = .ok (.goto (-23), 3) := by decide +kernel
theorem dX4_isPlaceOfAny_28 : decode cX4_isPlaceOfAny 28 = .ok (.iconst 0, 1) := by decide +kernel
theorem dX4_isPlaceOfAny_29 : decode cX4_isPlaceOfAny 29 = .ok (.ireturn, 1) := by decide +kernel
theorem dX4_add_0 : decode cX4_add 0 = .ok (.aload_n 0, 1) := by decide +kernel
theorem dX4_add_1 : decode cX4_add 1 = .ok (.getfield 9, 3) := by decide +kernel
theorem dX4_add_4 : decode cX4_add 4 = .ok (.istore 4, 2) := by decide +kernel
theorem dX4_add_6 : decode cX4_add 6 = .ok (.aload_n 0, 1) := by decide +kernel
theorem dX4_add_7 : decode cX4_add 7 = .ok (.getfield 15, 3) := by decide +kernel
theorem dX4_add_10 : decode cX4_add 10 = .ok (.iload 4, 2) := by decide +kernel
theorem dX4_add_12 : decode cX4_add 12 = .ok (.iload_n 1, 1) := by decide +kernel
theorem dX4_add_13 : decode cX4_add 13 = .ok (.iastore, 1) := by decide +kernel
theorem dX4_add_14 : decode cX4_add 14 = .ok (.aload_n 0, 1) := by decide +kernel
theorem dX4_add_15 : decode cX4_add 15 = .ok (.getfield 19, 3) := by decide +kernel
theorem dX4_add_18 : decode cX4_add 18 = .ok (.iload 4, 2) := by decide +kernel
theorem dX4_add_20 : decode cX4_add 20 = .ok (.iload_n 2, 1) := by decide +kernel
theorem dX4_add_21 : decode cX4_add 21 = .ok (.iastore, 1) := by decide +kernel
theorem dX4_add_22 : decode cX4_add 22 = .ok (.aload_n 0, 1) := by decide +kernel
theorem dX4_add_23 : decode cX4_add 23 = .ok (.getfield 22, 3) := by decide +kernel
theorem dX4_add_26 : decode cX4_add 26 = .ok (.iload 4, 2) := by decide +kernel
theorem dX4_add_28 : decode cX4_add 28 = .ok (.iload_n 3, 1) := by decide +kernel
theorem dX4_add_29 : decode cX4_add 29 = .ok (.iastore, 1) := by decide +kernel
theorem dX4_add_30 : decode cX4_add 30 = .ok (.aload_n 0, 1) := by decide +kernel
theorem dX4_add_31 : decode cX4_add 31 = .ok (.getfield 25, 3) := by decide +kernel
theorem dX4_add_34 : decode cX4_add 34 = .ok (.iload 4, 2) := by decide +kernel
theorem dX4_add_36 : decode cX4_add 36 = .ok (.iload_n 2, 1) := by decide +kernel
theorem dX4_add_37 : decode cX4_add 37 = .ok (.iastore, 1) := by decide +kernel
theorem dX4_add_38 : decode cX4_add 38 = .ok (.aload_n 0, 1) := by decide +kernel
theorem dX4_add_39 : decode cX4_add 39 = .ok (.getfield 28, 3) := by decide +kernel
theorem dX4_add_42 : decode cX4_add 42 = .ok (.iload 4, 2) := by decide +kernel
theorem dX4_add_44 : decode cX4_add 44 = .ok (.iconst 0, 1) := by decide +kernel
theorem dX4_add_45 : decode cX4_add 45 = .ok (.iastore, 1) := by decide +kernel
theorem dX4_add_46 : decode cX4_add 46 = .ok (.aload_n 0, 1) := by decide +kernel
theorem dX4_add_47 : decode cX4_add 47 = .ok (.getfield 31, 3) := by decide +kernel
theorem dX4_add_50 : decode cX4_add 50 = .ok (.iload 4, 2) := by decide +kernel
theorem dX4_add_52 : decode cX4_add 52 = .ok (.iconst 0, 1) := by decide +kernel
theorem dX4_add_53 : decode cX4_add 53 = .ok (.iastore, 1) := by decide +kernel
theorem dX4_add_54 : decode cX4_add 54 = .ok (.aload_n 0, 1) := by decide +kernel
theorem dX4_add_55 : decode cX4_add 55 = .ok (.getfield 34, 3) := by decide +kernel
theorem dX4_add_58 : decode cX4_add 58 = .ok (.iload 4, 2) := by decide +kernel
theorem dX4_add_60 : decode cX4_add 60 = .ok (.iconst 0, 1) := by decide +kernel
theorem dX4_add_61 : decode cX4_add 61 = .ok (.iastore, 1) := by decide +kernel
theorem dX4_add_62 : decode cX4_add 62 = .ok (.aload_n 0, 1) := by decide +kernel
theorem dX4_add_63 : decode cX4_add 63 = .ok (.dup, 1) := by decide +kernel
theorem dX4_add_64 : decode cX4_add 64 = .ok (.getfield 9, 3) := by decide +kernel
theorem dX4_add_67 : decode cX4_add 67 = .ok (.iconst 1, 1) := by decide +kernel
theorem dX4_add_68 : decode cX4_add 68 = .ok (.iadd, 1) := by decide +kernel
theorem dX4_add_69 : decode cX4_add 69 = .ok (.putfield 9, 3) := by decide +kernel
theorem dX4_add_72 : decode cX4_add 72 = .ok (.iload 4, 2) := by decide +kernel
theorem dX4_add_74 : decode cX4_add 74 = .ok (.ireturn, 1) := by decide +kernel
theorem dX4_howManyPresent_0 : decode cX4_howManyPresent 0 = .ok (.iconst 0, 1) := by decide +kernel
theorem dX4_howManyPresent_1 : decode cX4_howManyPresent 1 = .ok (.istore_n 1, 1) := by decide +kernel
theorem dX4_howManyPresent_2 : decode cX4_howManyPresent 2 = .ok (.iconst 0, 1) := by decide +kernel
theorem dX4_howManyPresent_3 : decode cX4_howManyPresent 3 = .ok (.istore_n 2, 1) := by decide +kernel
theorem dX4_howManyPresent_4 : decode cX4_howManyPresent 4 = .ok (.iload_n 2, 1) := by decide +kernel
theorem dX4_howManyPresent_5 : decode cX4_howManyPresent 5 = .ok (.aload_n 0, 1) := by decide +kernel
theorem dX4_howManyPresent_6 : decode cX4_howManyPresent 6 = .ok (.getfield 9, 3) := by decide +kernel
theorem dX4_howManyPresent_9 : decode cX4_howManyPresent 9 = .ok (.if_icmp .ge 20, 3) := by decide +kernel
theorem dX4_howManyPresent_12 : decode cX4_howManyPresent 12 = .ok (.iload_n 1, 1) := by decide +kernel
theorem dX4_howManyPresent_13 : decode cX4_howManyPresent 13 = .ok (.iconst 1, 1) := by decide +kernel
theorem dX4_howManyPresent_14 : decode cX4_howManyPresent 14 = .ok (.aload_n 0, 1) := by decide +kernel
theorem dX4_howManyPresent_15 : decode cX4_howManyPresent 15 = .ok (.getfield 34, 3) := by decide +kernel
theorem dX4_howManyPresent_18 : decode cX4_howManyPresent 18 = .ok (.iload_n 2, 1) := by decide +kernel
theorem dX4_howManyPresent_19 : decode cX4_howManyPresent 19 = .ok (.iaload, 1) := by decide +kernel
theorem dX4_howManyPresent_20 : decode cX4_howManyPresent 20 = .ok (.isub, 1) := by decide +kernel
theorem dX4_howManyPresent_21 : decode cX4_howManyPresent 21 = .ok (.iadd, 1) := by decide +kernel
theorem dX4_howManyPresent_22 : decode cX4_howManyPresent 22 = .ok (.istore_n 1, 1) := by decide +kernel
theorem dX4_howManyPresent_23 : decode cX4_howManyPresent 23 = .ok (.iinc 2 1, 3) := by decide +kernel
theorem dX4_howManyPresent_26 : decode cX4_howManyPresent 26 = .ok (.goto (-22), 3) := by decide +kernel
theorem dX4_howManyPresent_29 : decode cX4_howManyPresent 29 = .ok (.iload_n 1, 1) := by decide +kernel
theorem dX4_howManyPresent_30 : decode cX4_howManyPresent 30 = .ok (.ireturn, 1) := by decide +kernel
theorem dX4_leastDrawnBut_0 : decode cX4_leastDrawnBut 0 = .ok (.iconst (-1), 1) := by decide +kernel
theorem dX4_leastDrawnBut_1 : decode cX4_leastDrawnBut 1 = .ok (.istore_n 2, 1) := by decide +kernel
theorem dX4_leastDrawnBut_2 : decode cX4_leastDrawnBut 2 = .ok (.iconst 0, 1) := by decide +kernel
theorem dX4_leastDrawnBut_3 : decode cX4_leastDrawnBut 3 = .ok (.istore_n 3, 1) := by decide +kernel
theorem dX4_leastDrawnBut_4 : decode cX4_leastDrawnBut 4 = .ok (.iload_n 3, 1) := by decide +kernel
theorem dX4_leastDrawnBut_5 : decode cX4_leastDrawnBut 5 = .ok (.aload_n 0, 1) := by decide +kernel
theorem dX4_leastDrawnBut_6 : decode cX4_leastDrawnBut 6 = .ok (.getfield 9, 3) := by decide +kernel
theorem dX4_leastDrawnBut_9 : decode cX4_leastDrawnBut 9 = .ok (.if_icmp .ge 44, 3) := by decide +kernel
theorem dX4_leastDrawnBut_12 : decode cX4_leastDrawnBut 12 = .ok (.iload_n 3, 1) := by decide +kernel
theorem dX4_leastDrawnBut_13 : decode cX4_leastDrawnBut 13 = .ok (.iload_n 1, 1) := by decide +kernel
theorem dX4_leastDrawnBut_14 : decode cX4_leastDrawnBut 14 = .ok (.if_icmp .eq 33, 3) := by decide +kernel
theorem dX4_leastDrawnBut_17 : decode cX4_leastDrawnBut 17 = .ok (.aload_n 0, 1) := by decide +kernel
theorem dX4_leastDrawnBut_18 : decode cX4_leastDrawnBut 18 = .ok (.iload_n 3, 1) := by decide +kernel
theorem dX4_leastDrawnBut_19 : decode cX4_leastDrawnBut 19 = .ok (.invokevirtual 45, 3) := by decide +kernel
theorem dX4_leastDrawnBut_22 : decode cX4_leastDrawnBut 22 = .ok (.ifCond .ne 25, 3) := by decide +kernel
theorem dX4_leastDrawnBut_25 : decode cX4_leastDrawnBut 25 = .ok (.iload_n 2, 1) := by decide +kernel
theorem dX4_leastDrawnBut_26 : decode cX4_leastDrawnBut 26 = .ok (.iconst (-1), 1) := by decide +kernel
theorem dX4_leastDrawnBut_27 : decode cX4_leastDrawnBut 27 = .ok (.if_icmp .eq 13, 3) := by decide +kernel
theorem dX4_leastDrawnBut_30 : decode cX4_leastDrawnBut 30 = .ok (.aload_n 0, 1) := by decide +kernel
theorem dX4_leastDrawnBut_31 : decode cX4_leastDrawnBut 31 = .ok (.getfield 28, 3) := by decide +kernel
theorem dX4_leastDrawnBut_34 : decode cX4_leastDrawnBut 34 = .ok (.iload_n 3, 1) := by decide +kernel
theorem dX4_leastDrawnBut_35 : decode cX4_leastDrawnBut 35 = .ok (.iaload, 1) := by decide +kernel
theorem dX4_leastDrawnBut_36 : decode cX4_leastDrawnBut 36 = .ok (.iload_n 2, 1) := by decide +kernel
theorem dX4_leastDrawnBut_37 : decode cX4_leastDrawnBut 37 = .ok (.if_icmp .ge 10, 3) := by decide +kernel
theorem dX4_leastDrawnBut_40 : decode cX4_leastDrawnBut 40 = .ok (.aload_n 0, 1) := by decide +kernel
theorem dX4_leastDrawnBut_41 : decode cX4_leastDrawnBut 41 = .ok (.getfield 28, 3) := by decide +kernel
theorem dX4_leastDrawnBut_44 : decode cX4_leastDrawnBut 44 = .ok (.iload_n 3, 1) := by decide +kernel
theorem dX4_leastDrawnBut_45 : decode cX4_leastDrawnBut 45 = .ok (.iaload, 1) := by decide +kernel
theorem dX4_leastDrawnBut_46 : decode cX4_leastDrawnBut 46 = .ok (.istore_n 2, 1) := by decide +kernel
theorem dX4_leastDrawnBut_47 : decode cX4_leastDrawnBut 47 = .ok (.iinc 3 1, 3) := by decide +kernel
theorem dX4_leastDrawnBut_50 : decode cX4_leastDrawnBut 50 = .ok (.goto (-46), 3) := by decide +kernel
theorem dX4_leastDrawnBut_53 : decode cX4_leastDrawnBut 53 = .ok (.iload_n 2, 1) := by decide +kernel
theorem dX4_leastDrawnBut_54 : decode cX4_leastDrawnBut 54 = .ok (.ireturn, 1) := by decide +kernel
theorem dX4_spreadOf_0 : decode cX4_spreadOf 0 = .ok (.iconst (-1), 1) := by decide +kernel
theorem dX4_spreadOf_1 : decode cX4_spreadOf 1 = .ok (.istore_n 2, 1) := by decide +kernel
theorem dX4_spreadOf_2 : decode cX4_spreadOf 2 = .ok (.iconst (-1), 1) := by decide +kernel
theorem dX4_spreadOf_3 : decode cX4_spreadOf 3 = .ok (.istore_n 3, 1) := by decide +kernel
theorem dX4_spreadOf_4 : decode cX4_spreadOf 4 = .ok (.iconst 0, 1) := by decide +kernel
theorem dX4_spreadOf_5 : decode cX4_spreadOf 5 = .ok (.istore 4, 2) := by decide +kernel
theorem dX4_spreadOf_7 : decode cX4_spreadOf 7 = .ok (.iload 4, 2) := by decide +kernel
theorem dX4_spreadOf_9 : decode cX4_spreadOf 9 = .ok (.aload_n 0, 1) := by decide +kernel
theorem dX4_spreadOf_10 : decode cX4_spreadOf 10 = .ok (.getfield 9, 3) := by decide +kernel
theorem dX4_spreadOf_13 : decode cX4_spreadOf 13 = .ok (.if_icmp .ge 55, 3) := by decide +kernel
theorem dX4_spreadOf_16 : decode cX4_spreadOf 16 = .ok (.iload 4, 2) := by decide +kernel
theorem dX4_spreadOf_18 : decode cX4_spreadOf 18 = .ok (.aload_n 1, 1) := by decide +kernel
theorem dX4_spreadOf_19 : decode cX4_spreadOf 19 = .ok (.arraylength, 1) := by decide +kernel
theorem dX4_spreadOf_20 : decode cX4_spreadOf 20 = .ok (.if_icmp .ge 48, 3) := by decide +kernel
theorem dX4_spreadOf_23 : decode cX4_spreadOf 23 = .ok (.aload_n 0, 1) := by decide +kernel
theorem dX4_spreadOf_24 : decode cX4_spreadOf 24 = .ok (.iload 4, 2) := by decide +kernel
theorem dX4_spreadOf_26 : decode cX4_spreadOf 26 = .ok (.invokevirtual 45, 3) := by decide +kernel
theorem dX4_spreadOf_29 : decode cX4_spreadOf 29 = .ok (.ifCond .ne 33, 3) := by decide +kernel
theorem dX4_spreadOf_32 : decode cX4_spreadOf 32 = .ok (.iload_n 2, 1) := by decide +kernel
theorem dX4_spreadOf_33 : decode cX4_spreadOf 33 = .ok (.iconst (-1), 1) := by decide +kernel
theorem dX4_spreadOf_34 : decode cX4_spreadOf 34 = .ok (.if_icmp .ne 10, 3) := by decide +kernel
theorem dX4_spreadOf_37 : decode cX4_spreadOf 37 = .ok (.aload_n 1, 1) := by decide +kernel
theorem dX4_spreadOf_38 : decode cX4_spreadOf 38 = .ok (.iload 4, 2) := by decide +kernel
theorem dX4_spreadOf_40 : decode cX4_spreadOf 40 = .ok (.iaload, 1) := by decide +kernel
theorem dX4_spreadOf_41 : decode cX4_spreadOf 41 = .ok (.goto 11, 3) := by decide +kernel
theorem dX4_spreadOf_44 : decode cX4_spreadOf 44 = .ok (.iload_n 2, 1) := by decide +kernel
theorem dX4_spreadOf_45 : decode cX4_spreadOf 45 = .ok (.aload_n 1, 1) := by decide +kernel
theorem dX4_spreadOf_46 : decode cX4_spreadOf 46 = .ok (.iload 4, 2) := by decide +kernel
theorem dX4_spreadOf_48 : decode cX4_spreadOf 48 = .ok (.iaload, 1) := by decide +kernel
theorem dX4_spreadOf_49 : decode cX4_spreadOf 49 = .ok (.invokestatic 49, 3) := by decide +kernel
theorem dX4_spreadOf_52 : decode cX4_spreadOf 52 = .ok (.istore_n 2, 1) := by decide +kernel
theorem dX4_spreadOf_53 : decode cX4_spreadOf 53 = .ok (.iload_n 3, 1) := by decide +kernel
theorem dX4_spreadOf_54 : decode cX4_spreadOf 54 = .ok (.aload_n 1, 1) := by decide +kernel
theorem dX4_spreadOf_55 : decode cX4_spreadOf 55 = .ok (.iload 4, 2) := by decide +kernel
theorem dX4_spreadOf_57 : decode cX4_spreadOf 57 = .ok (.iaload, 1) := by decide +kernel
theorem dX4_spreadOf_58 : decode cX4_spreadOf 58 = .ok (.invokestatic 55, 3) := by decide +kernel
theorem dX4_spreadOf_61 : decode cX4_spreadOf 61 = .ok (.istore_n 3, 1) := by decide +kernel
theorem dX4_spreadOf_62 : decode cX4_spreadOf 62 = .ok (.iinc 4 1, 3) := by decide +kernel
theorem dX4_spreadOf_65 : decode cX4_spreadOf 65 = .ok (.goto (-58), 3) := by decide +kernel
theorem dX4_spreadOf_68 : decode cX4_spreadOf 68 = .ok (.iload_n 2, 1) := by decide +kernel
theorem dX4_spreadOf_69 : decode cX4_spreadOf 69 = .ok (.iconst (-1), 1) := by decide +kernel
theorem dX4_spreadOf_70 : decode cX4_spreadOf 70 = .ok (.if_icmp .ne 8, 3) := by decide +kernel
theorem dX4_spreadOf_73 : decode cX4_spreadOf 73 = .ok (.ldc 58, 2) := by decide +kernel
theorem dX4_spreadOf_75 : decode cX4_spreadOf 75 = .ok (.goto 6, 3) := by decide +kernel
theorem dX4_spreadOf_78 : decode cX4_spreadOf 78 = .ok (.iload_n 3, 1) := by decide +kernel
theorem dX4_spreadOf_79 : decode cX4_spreadOf 79 = .ok (.iload_n 2, 1) := by decide +kernel
theorem dX4_spreadOf_80 : decode cX4_spreadOf 80 = .ok (.isub, 1) := by decide +kernel
theorem dX4_spreadOf_81 : decode cX4_spreadOf 81 = .ok (.ireturn, 1) := by decide +kernel
theorem dX5_init_0 : decode cX5_init 0 = .ok (.aload_n 0, 1) := by decide +kernel
theorem dX5_init_1 : decode cX5_init 1 = .ok (.invokespecial 3, 3) := by decide +kernel
theorem dX5_init_4 : decode cX5_init 4 = .ok (.aload_n 0, 1) := by decide +kernel
theorem dX5_init_5 : decode cX5_init 5 = .ok (.getstatic 9, 3) := by decide +kernel
theorem dX5_init_8 : decode cX5_init 8 = .ok (.invokevirtual 13, 3) := by decide +kernel
theorem dX5_init_11 : decode cX5_init 11 = .ok (.checkcast 14, 3) := by decide +kernel
theorem dX5_init_14 : decode cX5_init 14 = .ok (.putfield 18, 3) := by decide +kernel
theorem dX5_init_17 : decode cX5_init 17 = .ok (.aload_n 0, 1) := by decide +kernel
theorem dX5_init_18 : decode cX5_init 18 = .ok (.new 23, 3) := by decide +kernel
theorem dX5_init_21 : decode cX5_init 21 = .ok (.dup, 1) := by decide +kernel
theorem dX5_init_22 : decode cX5_init 22 = .ok (.invokespecial 25, 3) := by decide +kernel
theorem dX5_init_25 : decode cX5_init 25 = .ok (.putfield 26, 3) := by decide +kernel
theorem dX5_init_28 : decode cX5_init 28 = .ok (.aload_n 0, 1) := by decide +kernel
theorem dX5_init_29 : decode cX5_init 29 = .ok (.new 30, 3) := by decide +kernel
theorem dX5_init_32 : decode cX5_init 32 = .ok (.dup, 1) := by decide +kernel
theorem dX5_init_33 : decode cX5_init 33 = .ok (.invokespecial 32, 3) := by decide +kernel
theorem dX5_init_36 : decode cX5_init 36 = .ok (.putfield 33, 3) := by decide +kernel
theorem dX5_init_39 : decode cX5_init 39 = .ok (.aload_n 0, 1) := by decide +kernel
theorem dX5_init_40 : decode cX5_init 40 = .ok (.iconst 0, 1) := by decide +kernel
theorem dX5_init_41 : decode cX5_init 41 = .ok (.putfield 37, 3) := by decide +kernel
theorem dX5_init_44 : decode cX5_init 44 = .ok (.aload_n 0, 1) := by decide +kernel
theorem dX5_init_45 : decode cX5_init 45 = .ok (.iconst (-1), 1) := by decide +kernel
theorem dX5_init_46 : decode cX5_init 46 = .ok (.putfield 41, 3) := by decide +kernel
theorem dX5_init_49 : decode cX5_init 49 = .ok (.aload_n 0, 1) := by decide +kernel
theorem dX5_init_50 : decode cX5_init 50 = .ok (.iconst 0, 1) := by decide +kernel
theorem dX5_init_51 : decode cX5_init 51 = .ok (.putfield 44, 3) := by decide +kernel
theorem dX5_init_54 : decode cX5_init 54 = .ok (.aload_n 0, 1) := by decide +kernel
theorem dX5_init_55 : decode cX5_init 55 = .ok (.iconst 0, 1) := by decide +kernel
theorem dX5_init_56 : decode cX5_init 56 = .ok (.putfield 47, 3) := by decide +kernel
theorem dX5_init_59 : decode cX5_init 59 = .ok (.aload_n 0, 1) := by decide +kernel
theorem dX5_init_60 : decode cX5_init 60 = .ok (.iconst 0, 1) := by decide +kernel
theorem dX5_init_61 : decode cX5_init 61 = .ok (.putfield 50, 3) := by decide +kernel
theorem dX5_init_64 : decode cX5_init 64 = .ok (.aload_n 0, 1) := by decide +kernel
theorem dX5_init_65 : decode cX5_init 65 = .ok (.iconst 0, 1) := by decide +kernel
theorem dX5_init_66 : decode cX5_init 66 = .ok (.putfield 53, 3) := by decide +kernel
theorem dX5_init_69 : decode cX5_init 69 = .ok (.return_, 1) := by decide +kernel
theorem dX5_copyFrom_0 : decode cX5_copyFrom 0 = .ok (.aload_n 1, 1) := by decide +kernel
theorem dX5_copyFrom_1 : decode cX5_copyFrom 1 = .ok (.getfield 18, 3) := by decide +kernel
theorem dX5_copyFrom_4 : decode cX5_copyFrom 4 = .ok (.aload_n 0, 1) := by decide +kernel
theorem dX5_copyFrom_5 : decode cX5_copyFrom 5 = .ok (.getfield 18, 3) := by decide +kernel
theorem dX5_copyFrom_8 : decode cX5_copyFrom 8 = .ok (.invokestatic 56, 3) := by decide +kernel
theorem dX5_copyFrom_11 : decode cX5_copyFrom 11 = .ok (.aload_n 0, 1) := by decide +kernel
theorem dX5_copyFrom_12 : decode cX5_copyFrom 12 = .ok (.getfield 26, 3) := by decide +kernel
theorem dX5_copyFrom_15 : decode cX5_copyFrom 15 = .ok (.aload_n 1, 1) := by decide +kernel
theorem dX5_copyFrom_16 : decode cX5_copyFrom 16 = .ok (.getfield 26, 3) := by decide +kernel
theorem dX5_copyFrom_19 : decode cX5_copyFrom 19 = .ok (.invokevirtual 60, 3) := by decide +kernel
theorem dX5_copyFrom_22 : decode cX5_copyFrom 22 = .ok (.aload_n 0, 1) := by decide +kernel
theorem dX5_copyFrom_23 : decode cX5_copyFrom 23 = .ok (.getfield 33, 3) := by decide +kernel
theorem dX5_copyFrom_26 : decode cX5_copyFrom 26 = .ok (.aload_n 1, 1) := by decide +kernel
theorem dX5_copyFrom_27 : decode cX5_copyFrom 27 = .ok (.getfield 33, 3) := by decide +kernel
theorem dX5_copyFrom_30 : decode cX5_copyFrom 30 = .ok (.invokevirtual 64, 3) := by decide +kernel
theorem dX5_copyFrom_33 : decode cX5_copyFrom 33 = .ok (.aload_n 0, 1) := by decide +kernel
theorem dX5_copyFrom_34 : decode cX5_copyFrom 34 = .ok (.aload_n 1, 1) := by decide +kernel
theorem dX5_copyFrom_35 : decode cX5_copyFrom 35 = .ok (.getfield 37, 3) := by decide +kernel
theorem dX5_copyFrom_38 : decode cX5_copyFrom 38 = .ok (.putfield 37, 3) := by decide +kernel
theorem dX5_copyFrom_41 : decode cX5_copyFrom 41 = .ok (.aload_n 0, 1) := by decide +kernel
theorem dX5_copyFrom_42 : decode cX5_copyFrom 42 = .ok (.aload_n 1, 1) := by decide +kernel
theorem dX5_copyFrom_43 : decode cX5_copyFrom 43 = .ok (.getfield 41, 3) := by decide +kernel
theorem dX5_copyFrom_46 : decode cX5_copyFrom 46 = .ok (.putfield 41, 3) := by decide +kernel
theorem dX5_copyFrom_49 : decode cX5_copyFrom 49 = .ok (.aload_n 0, 1) := by decide +kernel
theorem dX5_copyFrom_50 : decode cX5_copyFrom 50 = .ok (.aload_n 1, 1) := by decide +kernel
theorem dX5_copyFrom_51 : decode cX5_copyFrom 51 = .ok (.getfield 44, 3) := by decide +kernel
theorem dX5_copyFrom_54 : decode cX5_copyFrom 54 = .ok (.putfield 44, 3) := by decide +kernel
theorem dX5_copyFrom_57 : decode cX5_copyFrom 57 = .ok (.aload_n 0, 1) := by decide +kernel
theorem dX5_copyFrom_58 : decode cX5_copyFrom 58 = .ok (.aload_n 1, 1) := by decide +kernel
theorem dX5_copyFrom_59 : decode cX5_copyFrom 59 = .ok (.getfield 47, 3) := by decide +kernel
theorem dX5_copyFrom_62 : decode cX5_copyFrom 62 = .ok (.putfield 47, 3) := by decide +kernel
theorem dX5_copyFrom_65 : decode cX5_copyFrom 65 = .ok (.aload_n 0, 1) := by decide +kernel
theorem dX5_copyFrom_66 : decode cX5_copyFrom 66 = .ok (.aload_n 1, 1) := by decide +kernel
theorem dX5_copyFrom_67 : decode cX5_copyFrom 67 = .ok (.getfield 50, 3) := by decide +kernel
theorem dX5_copyFrom_70 : decode cX5_copyFrom 70 = .ok (.putfield 50, 3) := by decide +kernel
theorem dX5_copyFrom_73 : decode cX5_copyFrom 73 = .ok (.aload_n 0, 1) := by decide +kernel
theorem dX5_copyFrom_74 : decode cX5_copyFrom 74 = .ok (.aload_n 1, 1) := by decide +kernel
theorem dX5_copyFrom_75 : decode cX5_copyFrom 75 = .ok (.getfield 53, 3) := by decide +kernel
theorem dX5_copyFrom_78 : decode cX5_copyFrom 78 = .ok (.putfield 53, 3) := by decide +kernel
theorem dX5_copyFrom_81 : decode cX5_copyFrom 81 = .ok (.return_, 1) := by decide +kernel
theorem dX5_isStriking_0 : decode cX5_isStriking 0 = .ok (.aload_n 0, 1) := by decide +kernel
theorem dX5_isStriking_1 : decode cX5_isStriking 1 = .ok (.getfield 26, 3) := by decide +kernel
theorem dX5_isStriking_4 : decode cX5_isStriking 4 = .ok (.iload_n 1, 1) := by decide +kernel
theorem dX5_isStriking_5 : decode cX5_isStriking 5 = .ok (.invokevirtual 67, 3) := by decide +kernel
theorem dX5_isStriking_8 : decode cX5_isStriking 8 = .ok (.ifCond .ne 34, 3) := by decide +kernel
theorem dX5_isStriking_11 : decode cX5_isStriking 11 = .ok (.aload_n 0, 1) := by decide +kernel
theorem dX5_isStriking_12 : decode cX5_isStriking 12 = .ok (.getfield 26, 3) := by decide +kernel
theorem dX5_isStriking_15 : decode cX5_isStriking 15 = .ok (.getfield 71, 3) := by decide +kernel
theorem dX5_isStriking_18 : decode cX5_isStriking 18 = .ok (.iload_n 1, 1) := by decide +kernel
theorem dX5_isStriking_19 : decode cX5_isStriking 19 = .ok (.iaload, 1) := by decide +kernel
theorem dX5_isStriking_20 : decode cX5_isStriking 20 = .ok (.aload_n 0, 1) := by decide +kernel
theorem dX5_isStriking_21 : decode cX5_isStriking 21 = .ok (.getfield 26, 3) := by decide +kernel
theorem dX5_isStriking_24 : decode cX5_isStriking 24 = .ok (.iconst (-1), 1) := by decide +kernel
theorem dX5_isStriking_25 : decode cX5_isStriking 25 = .ok (.invokevirtual 74, 3) := by decide +kernel
theorem dX5_isStriking_28 : decode cX5_isStriking 28 = .ok (.isub, 1) := by decide +kernel
theorem dX5_isStriking_29 : decode cX5_isStriking 29 = .ok (.aload_n 0, 1) := by decide +kernel
theorem dX5_isStriking_30 : decode cX5_isStriking 30 = .ok (.getfield 18, 3) := by decide +kernel
theorem dX5_isStriking_33 : decode cX5_isStriking 33 = .ok (.iconst 0, 1) := by decide +kernel
theorem dX5_isStriking_34 : decode cX5_isStriking 34 = .ok (.iaload, 1) := by decide +kernel
theorem dX5_isStriking_35 : decode cX5_isStriking 35 = .ok (.if_icmp .le 7, 3) := by decide +kernel
theorem dX5_isStriking_38 : decode cX5_isStriking 38 = .ok (.iconst 1, 1) := by decide +kernel
theorem dX5_isStriking_39 : decode cX5_isStriking 39 = .ok (.goto 4, 3) := by decide +kernel
theorem dX5_isStriking_42 : decode cX5_isStriking 42 = .ok (.iconst 0, 1) := by decide +kernel
theorem dX5_isStriking_43 : decode cX5_isStriking 43 = .ok (.ireturn, 1) := by decide +kernel
theorem dX5_isClogged_0 : decode cX5_isClogged 0 = .ok (.aload_n 0, 1) := by decide +kernel
theorem dX5_isClogged_1 : decode cX5_isClogged 1 = .ok (.getfield 26, 3) := by decide +kernel
theorem dX5_isClogged_4 : decode cX5_isClogged 4 = .ok (.getfield 78, 3) := by decide +kernel
theorem dX5_isClogged_7 : decode cX5_isClogged 7 = .ok (.iload_n 1, 1) := by decide +kernel
theorem dX5_isClogged_8 : decode cX5_isClogged 8 = .ok (.iaload, 1) := by decide +kernel
theorem dX5_isClogged_9 : decode cX5_isClogged 9 = .ok (.aload_n 0, 1) := by decide +kernel
theorem dX5_isClogged_10 : decode cX5_isClogged 10 = .ok (.getfield 18, 3) := by decide +kernel
theorem dX5_isClogged_13 : decode cX5_isClogged 13 = .ok (.iconst 1, 1) := by decide +kernel
theorem dX5_isClogged_14 : decode cX5_isClogged 14 = .ok (.iaload, 1) := by decide +kernel
theorem dX5_isClogged_15 : decode cX5_isClogged 15 = .ok (.if_icmp .le 7, 3) := by decide +kernel
theorem dX5_isClogged_18 : decode cX5_isClogged 18 = .ok (.iconst 1, 1) := by decide +kernel
theorem dX5_isClogged_19 : decode cX5_isClogged 19 = .ok (.goto 4, 3) := by decide +kernel
theorem dX5_isClogged_22 : decode cX5_isClogged 22 = .ok (.iconst 0, 1) := by decide +kernel
theorem dX5_isClogged_23 : decode cX5_isClogged 23 = .ok (.ireturn, 1) := by decide +kernel
theorem dX5_isWet_0 : decode cX5_isWet 0 = .ok (.aload_n 0, 1) := by decide +kernel
theorem dX5_isWet_1 : decode cX5_isWet 1 = .ok (.getfield 33, 3) := by decide +kernel
theorem dX5_isWet_4 : decode cX5_isWet 4 = .ok (.iload_n 1, 1) := by decide +kernel
theorem dX5_isWet_5 : decode cX5_isWet 5 = .ok (.invokevirtual 81, 3) := by decide +kernel
theorem dX5_isWet_8 : decode cX5_isWet 8 = .ok (.ifCond .eq 23, 3) := by decide +kernel
theorem dX5_isWet_11 : decode cX5_isWet 11 = .ok (.aload_n 0, 1) := by decide +kernel
theorem dX5_isWet_12 : decode cX5_isWet 12 = .ok (.getfield 37, 3) := by decide +kernel
theorem dX5_isWet_15 : decode cX5_isWet 15 = .ok (.aload_n 0, 1) := by decide +kernel
theorem dX5_isWet_16 : decode cX5_isWet 16 = .ok (.getfield 33, 3) := by decide +kernel
theorem dX5_isWet_19 : decode cX5_isWet 19 = .ok (.getfield 84, 3) := by decide +kernel
theorem dX5_isWet_22 : decode cX5_isWet 22 = .ok (.iload_n 1, 1) := by decide +kernel
theorem dX5_isWet_23 : decode cX5_isWet 23 = .ok (.iaload, 1) := by decide +kernel
theorem dX5_isWet_24 : decode cX5_isWet 24 = .ok (.if_icmp .ge 7, 3) := by decide +kernel
theorem dX5_isWet_27 : decode cX5_isWet 27 = .ok (.iconst 1, 1) := by decide +kernel
theorem dX5_isWet_28 : decode cX5_isWet 28 = .ok (.goto 4, 3) := by decide +kernel
theorem dX5_isWet_31 : decode cX5_isWet 31 = .ok (.iconst 0, 1) := by decide +kernel
theorem dX5_isWet_32 : decode cX5_isWet 32 = .ok (.ireturn, 1) := by decide +kernel
theorem dX5_howManyWet_0 : decode cX5_howManyWet 0 = .ok (.iconst 0, 1) := by decide +kernel
theorem dX5_howManyWet_1 : decode cX5_howManyWet 1 = .ok (.istore_n 1, 1) := by decide +kernel
theorem dX5_howManyWet_2 : decode cX5_howManyWet 2 = .ok (.iconst 0, 1) := by decide +kernel
theorem dX5_howManyWet_3 : decode cX5_howManyWet 3 = .ok (.istore_n 2, 1) := by decide +kernel
theorem dX5_howManyWet_4 : decode cX5_howManyWet 4 = .ok (.iload_n 2, 1) := by decide +kernel
theorem dX5_howManyWet_5 : decode cX5_howManyWet 5 = .ok (.aload_n 0, 1) := by decide +kernel
theorem dX5_howManyWet_6 : decode cX5_howManyWet 6 = .ok (.getfield 33, 3) := by decide +kernel
theorem dX5_howManyWet_9 : decode cX5_howManyWet 9 = .ok (.getfield 87, 3) := by decide +kernel
theorem dX5_howManyWet_12 : decode cX5_howManyWet 12 = .ok (.if_icmp .ge 20, 3) := by decide +kernel
theorem dX5_howManyWet_15 : decode cX5_howManyWet 15 = .ok (.iload_n 1, 1) := by decide +kernel
theorem dX5_howManyWet_16 : decode cX5_howManyWet 16 = .ok (.aload_n 0, 1) := by decide +kernel
theorem dX5_howManyWet_17 : decode cX5_howManyWet 17 = .ok (.iload_n 2, 1) := by decide +kernel
theorem dX5_howManyWet_18 : decode cX5_howManyWet 18 = .ok (.invokevirtual 90, 3) := by decide +kernel
theorem dX5_howManyWet_21 : decode cX5_howManyWet 21 = .ok (.invokestatic 93, 3) := by decide +kernel
theorem dX5_howManyWet_24 : decode cX5_howManyWet 24 = .ok (.iadd, 1) := by decide +kernel
theorem dX5_howManyWet_25 : decode cX5_howManyWet 25 = .ok (.istore_n 1, 1) := by decide +kernel
theorem dX5_howManyWet_26 : decode cX5_howManyWet 26 = .ok (.iinc 2 1, 3) := by decide +kernel
theorem dX5_howManyWet_29 : decode cX5_howManyWet 29 = .ok (.goto (-25), 3) := by decide +kernel
theorem dX5_howManyWet_32 : decode cX5_howManyWet 32 = .ok (.iload_n 1, 1) := by decide +kernel
theorem dX5_howManyWet_33 : decode cX5_howManyWet 33 = .ok (.ireturn, 1) := by decide +kernel
theorem dX5_shadeOf_0 : decode cX5_shadeOf 0 = .ok (.aload_n 0, 1) := by decide +kernel
theorem dX5_shadeOf_1 : decode cX5_shadeOf 1 = .ok (.getfield 33, 3) := by decide +kernel
theorem dX5_shadeOf_4 : decode cX5_shadeOf 4 = .ok (.getfield 97, 3) := by decide +kernel
theorem dX5_shadeOf_7 : decode cX5_shadeOf 7 = .ok (.iload_n 1, 1) := by decide +kernel
theorem dX5_shadeOf_8 : decode cX5_shadeOf 8 = .ok (.iaload, 1) := by decide +kernel
theorem dX5_shadeOf_9 : decode cX5_shadeOf 9 = .ok (.istore_n 2, 1) := by decide +kernel
theorem dX5_shadeOf_10 : decode cX5_shadeOf 10 = .ok (.aload_n 0, 1) := by decide +kernel
theorem dX5_shadeOf_11 : decode cX5_shadeOf 11 = .ok (.getfield 26, 3) := by decide +kernel
theorem dX5_shadeOf_14 : decode cX5_shadeOf 14 = .ok (.iload_n 2, 1) := by decide +kernel
theorem dX5_shadeOf_15 : decode cX5_shadeOf 15 = .ok (.invokevirtual 100, 3) := by decide +kernel
theorem dX5_shadeOf_18 : decode cX5_shadeOf 18 = .ok (.ifCond .eq 15, 3) := by decide +kernel
theorem dX5_shadeOf_21 : decode cX5_shadeOf 21 = .ok (.aload_n 0, 1) := by decide +kernel
theorem dX5_shadeOf_22 : decode cX5_shadeOf 22 = .ok (.getfield 26, 3) := by decide +kernel
theorem dX5_shadeOf_25 : decode cX5_shadeOf 25 = .ok (.getfield 103, 3) := by decide +kernel
theorem dX5_shadeOf_28 : decode cX5_shadeOf 28 = .ok (.iload_n 2, 1) := by decide +kernel
theorem dX5_shadeOf_29 : decode cX5_shadeOf 29 = .ok (.iaload, 1) := by decide +kernel
theorem dX5_shadeOf_30 : decode cX5_shadeOf 30 = .ok (.goto 4, 3) := by decide +kernel
theorem dX5_shadeOf_33 : decode cX5_shadeOf 33 = .ok (.iconst 0, 1) := by decide +kernel
theorem dX5_shadeOf_34 : decode cX5_shadeOf 34 = .ok (.istore_n 3, 1) := by decide +kernel
theorem dX5_shadeOf_35 : decode cX5_shadeOf 35 = .ok (.iload_n 3, 1) := by decide +kernel
theorem dX5_shadeOf_36 : decode cX5_shadeOf 36 = .ok (.ifCond .ne 7, 3) := by decide +kernel
theorem dX5_shadeOf_39 : decode cX5_shadeOf 39 = .ok (.fconst 0, 1) := by decide +kernel
theorem dX5_shadeOf_40 : decode cX5_shadeOf 40 = .ok (.goto 16, 3) := by decide +kernel
theorem dX5_shadeOf_43 : decode cX5_shadeOf 43 = .ok (.aload_n 0, 1) := by decide +kernel
theorem dX5_shadeOf_44 : decode cX5_shadeOf 44 = .ok (.getfield 33, 3) := by decide +kernel
theorem dX5_shadeOf_47 : decode cX5_shadeOf 47 = .ok (.getfield 106, 3) := by decide +kernel
theorem dX5_shadeOf_50 : decode cX5_shadeOf 50 = .ok (.iload_n 1, 1) := by decide +kernel
theorem dX5_shadeOf_51 : decode cX5_shadeOf 51 = .ok (.iaload, 1) := by decide +kernel
theorem dX5_shadeOf_52 : decode cX5_shadeOf 52 = .ok (.i2f, 1) := by decide +kernel
theorem dX5_shadeOf_53 : decode cX5_shadeOf 53 = .ok (.iload_n 3, 1) := by decide +kernel
theorem dX5_shadeOf_54 : decode cX5_shadeOf 54 = .ok (.i2f, 1) := by decide +kernel
theorem dX5_shadeOf_55 : decode cX5_shadeOf 55 = .ok (.fdiv, 1) := by decide +kernel
theorem dX5_shadeOf_56 : decode cX5_shadeOf 56 = .ok (.freturn, 1) := by decide +kernel
theorem dX5_inkFor_0 : decode cX5_inkFor 0 = .ok (.aload_n 0, 1) := by decide +kernel
theorem dX5_inkFor_1 : decode cX5_inkFor 1 = .ok (.getfield 26, 3) := by decide +kernel
theorem dX5_inkFor_4 : decode cX5_inkFor 4 = .ok (.getfield 109, 3) := by decide +kernel
theorem dX5_inkFor_7 : decode cX5_inkFor 7 = .ok (.iload_n 1, 1) := by decide +kernel
theorem dX5_inkFor_8 : decode cX5_inkFor 8 = .ok (.iaload, 1) := by decide +kernel
theorem dX5_inkFor_9 : decode cX5_inkFor 9 = .ok (.iconst 1, 1) := by decide +kernel
theorem dX5_inkFor_10 : decode cX5_inkFor 10 = .ok (.if_icmp .ne 17, 3) := by decide +kernel
theorem dX5_inkFor_13 : decode cX5_inkFor 13 = .ok (.iconst 2, 1) := by decide +kernel
theorem dX5_inkFor_14 : decode cX5_inkFor 14 = .ok (.aload_n 0, 1) := by decide +kernel
theorem dX5_inkFor_15 : decode cX5_inkFor 15 = .ok (.getfield 33, 3) := by decide +kernel
theorem dX5_inkFor_18 : decode cX5_inkFor 18 = .ok (.getfield 112, 3) := by decide +kernel
theorem dX5_inkFor_21 : decode cX5_inkFor 21 = .ok (.iload_n 2, 1) := by decide +kernel
theorem dX5_inkFor_22 : decode cX5_inkFor 22 = .ok (.iaload, 1) := by decide +kernel
theorem dX5_inkFor_23 : decode cX5_inkFor 23 = .ok (.imul, 1) := by decide +kernel
theorem dX5_inkFor_24 : decode cX5_inkFor 24 = .ok (.goto 12, 3) := by decide +kernel
theorem dX5_inkFor_27 : decode cX5_inkFor 27 = .ok (.aload_n 0, 1) := by decide +kernel
theorem dX5_inkFor_28 : decode cX5_inkFor 28 = .ok (.getfield 33, 3) := by decide +kernel
theorem dX5_inkFor_31 : decode cX5_inkFor 31 = .ok (.getfield 112, 3) := by decide +kernel
theorem dX5_inkFor_34 : decode cX5_inkFor 34 = .ok (.iload_n 2, 1) := by decide +kernel
theorem dX5_inkFor_35 : decode cX5_inkFor 35 = .ok (.iaload, 1) := by decide +kernel
theorem dX5_inkFor_36 : decode cX5_inkFor 36 = .ok (.ireturn, 1) := by decide +kernel
theorem dX5_travelTo_0 : decode cX5_travelTo 0 = .ok (.aload_n 0, 1) := by decide +kernel
theorem dX5_travelTo_1 : decode cX5_travelTo 1 = .ok (.getfield 44, 3) := by decide +kernel
theorem dX5_travelTo_4 : decode cX5_travelTo 4 = .ok (.aload_n 0, 1) := by decide +kernel
theorem dX5_travelTo_5 : decode cX5_travelTo 5 = .ok (.getfield 47, 3) := by decide +kernel
theorem dX5_travelTo_8 : decode cX5_travelTo 8 = .ok (.aload_n 0, 1) := by decide +kernel
theorem dX5_travelTo_9 : decode cX5_travelTo 9 = .ok (.getfield 33, 3) := by decide +kernel
theorem dX5_travelTo_12 : decode cX5_travelTo 12 = .ok (.iload_n 1, 1) := by decide +kernel
theorem dX5_travelTo_13 : decode cX5_travelTo 13 = .ok (.iload_n 2, 1) := by decide +kernel
theorem dX5_travelTo_14 : decode cX5_travelTo 14 = .ok (.invokevirtual 115, 3) := by decide +kernel
theorem dX5_travelTo_17 : decode cX5_travelTo 17 = .ok (.aload_n 0, 1) := by decide +kernel
theorem dX5_travelTo_18 : decode cX5_travelTo 18 = .ok (.getfield 33, 3) := by decide +kernel
theorem dX5_travelTo_21 : decode cX5_travelTo 21 = .ok (.iload_n 1, 1) := by decide +kernel
theorem dX5_travelTo_22 : decode cX5_travelTo 22 = .ok (.iload_n 2, 1) := by decide +kernel
theorem dX5_travelTo_23 : decode cX5_travelTo 23 = .ok (.invokevirtual 119, 3) := by decide +kernel
theorem dX5_travelTo_26 : decode cX5_travelTo 26 = .ok (.invokestatic 122, 3) := by decide +kernel
theorem dX5_travelTo_29 : decode cX5_travelTo 29 = .ok (.ireturn, 1) := by decide +kernel
theorem dX5_dryTimeFor_0 : decode cX5_dryTimeFor 0 = .ok (.iconst 0, 1) := by decide +kernel
theorem dX5_dryTimeFor_1 : decode cX5_dryTimeFor 1 = .ok (.istore_n 2, 1) := by decide +kernel
theorem dX5_dryTimeFor_2 : decode cX5_dryTimeFor 2 = .ok (.iconst 0, 1) := by decide +kernel
theorem dX5_dryTimeFor_3 : decode cX5_dryTimeFor 3 = .ok (.istore_n 3, 1) := by decide +kernel
theorem dX5_dryTimeFor_4 : decode cX5_dryTimeFor 4 = .ok (.iload_n 3, 1) := by decide +kernel
theorem dX5_dryTimeFor_5 : decode cX5_dryTimeFor 5 = .ok (.aload_n 0, 1) := by decide +kernel
theorem dX5_dryTimeFor_6 : decode cX5_dryTimeFor 6 = .ok (.getfield 33, 3) := by decide +kernel
theorem dX5_dryTimeFor_9 : decode cX5_dryTimeFor 9 = .ok (.getfield 87, 3) := by decide +kernel
theorem dX5_dryTimeFor_12 : decode cX5_dryTimeFor 12 = .ok (.if_icmp .ge 62, 3) := by decide +kernel
theorem dX5_dryTimeFor_15 : decode cX5_dryTimeFor 15 = .ok (.aload_n 0, 1) := by decide +kernel
theorem dX5_dryTimeFor_16 : decode cX5_dryTimeFor 16 = .ok (.getfield 33, 3) := by decide +kernel
theorem dX5_dryTimeFor_19 : decode cX5_dryTimeFor 19 = .ok (.iload_n 3, 1) := by decide +kernel
theorem dX5_dryTimeFor_20 : decode cX5_dryTimeFor 20 = .ok (.invokevirtual 81, 3) := by decide +kernel
theorem dX5_dryTimeFor_23 : decode cX5_dryTimeFor 23 = .ok (.ifCond .eq 45, 3) := by decide +kernel
theorem dX5_dryTimeFor_26 : decode cX5_dryTimeFor 26 = .ok (.aload_n 0, 1) := by decide +kernel
theorem dX5_dryTimeFor_27 : decode cX5_dryTimeFor 27 = .ok (.getfield 33, 3) := by decide +kernel
theorem dX5_dryTimeFor_30 : decode cX5_dryTimeFor 30 = .ok (.getfield 97, 3) := by decide +kernel
theorem dX5_dryTimeFor_33 : decode cX5_dryTimeFor 33 = .ok (.iload_n 3, 1) := by decide +kernel
theorem dX5_dryTimeFor_34 : decode cX5_dryTimeFor 34 = .ok (.iaload, 1) := by decide +kernel
theorem dX5_dryTimeFor_35 : decode cX5_dryTimeFor 35 = .ok (.aload_n 0, 1) := by decide +kernel
theorem dX5_dryTimeFor_36 : decode cX5_dryTimeFor 36 = .ok (.getfield 41, 3) := by decide +kernel
theorem dX5_dryTimeFor_39 : decode cX5_dryTimeFor 39 = .ok (.if_icmp .eq 29, 3) := by decide +kernel
theorem dX5_dryTimeFor_42 : decode cX5_dryTimeFor 42 = .ok (.aload_n 0, 1) := by decide +kernel
theorem dX5_dryTimeFor_43 : decode cX5_dryTimeFor 43 = .ok (.getfield 33, 3) := by decide +kernel
theorem dX5_dryTimeFor_46 : decode cX5_dryTimeFor 46 = .ok (.iload_n 1, 1) := by decide +kernel
theorem dX5_dryTimeFor_47 : decode cX5_dryTimeFor 47 = .ok (.iload_n 3, 1) := by decide +kernel
theorem dX5_dryTimeFor_48 : decode cX5_dryTimeFor 48 = .ok (.invokevirtual 126, 3) := by decide +kernel
theorem dX5_dryTimeFor_51 : decode cX5_dryTimeFor 51 = .ok (.ifCond .eq 17, 3) := by decide +kernel
theorem dX5_dryTimeFor_54 : decode cX5_dryTimeFor 54 = .ok (.iload_n 2, 1) := by decide +kernel
theorem dX5_dryTimeFor_55 : decode cX5_dryTimeFor 55 = .ok (.aload_n 0, 1) := by decide +kernel
theorem dX5_dryTimeFor_56 : decode cX5_dryTimeFor 56 = .ok (.getfield 33, 3) := by decide +kernel
theorem dX5_dryTimeFor_59 : decode cX5_dryTimeFor 59 = .ok (.getfield 84, 3) := by decide +kernel
theorem dX5_dryTimeFor_62 : decode cX5_dryTimeFor 62 = .ok (.iload_n 3, 1) := by decide +kernel
