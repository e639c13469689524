theorem dX0_init_0 : decode cX0_init 0 = .ok (.aload_n 0, 1) := by decide +kernel
theorem dX0_init_1 : decode cX0_init 1 = .ok (.invokespecial 3, 3) := by decide +kernel
theorem dX0_init_4 : decode cX0_init 4 = .ok (.aload_n 0, 1) := by decide +kernel
theorem dX0_init_5 : decode cX0_init 5 = .ok (.bipush 16, 2) := by decide +kernel
theorem dX0_init_7 : decode cX0_init 7 = .ok (.newarray .int, 2) := by decide +kernel
theorem dX0_init_9 : decode cX0_init 9 = .ok (.putfield 9, 3) := by decide +kernel
theorem dX0_init_12 : decode cX0_init 12 = .ok (.aload_n 0, 1) := by decide +kernel
theorem dX0_init_13 : decode cX0_init 13 = .ok (.iconst 5, 1) := by decide +kernel
theorem dX0_init_14 : decode cX0_init 14 = .ok (.newarray .int, 2) := by decide +kernel
theorem dX0_init_16 : decode cX0_init 16 = .ok (.putfield 15, 3) := by decide +kernel
theorem dX0_init_19 : decode cX0_init 19 = .ok (.return_, 1) := by decide +kernel
theorem dX0_make_0 : decode cX0_make 0 = .ok (.iconst 0, 1) := by decide +kernel
theorem dX0_make_1 : decode cX0_make 1 = .ok (.istore_n 3, 1) := by decide +kernel
theorem dX0_make_2 : decode cX0_make 2 = .ok (.iload_n 3, 1) := by decide +kernel
theorem dX0_make_3 : decode cX0_make 3 = .ok (.bipush 16, 2) := by decide +kernel
theorem dX0_make_5 : decode cX0_make 5 = .ok (.if_icmp .ge 16, 3) := by decide +kernel
theorem dX0_make_8 : decode cX0_make 8 = .ok (.aload_n 0, 1) := by decide +kernel
theorem dX0_make_9 : decode cX0_make 9 = .ok (.getfield 9, 3) := by decide +kernel
theorem dX0_make_12 : decode cX0_make 12 = .ok (.iload_n 3, 1) := by decide +kernel
theorem dX0_make_13 : decode cX0_make 13 = .ok (.iconst (-1), 1) := by decide +kernel
theorem dX0_make_14 : decode cX0_make 14 = .ok (.iastore, 1) := by decide +kernel
theorem dX0_make_15 : decode cX0_make 15 = .ok (.iinc 3 1, 3) := by decide +kernel
theorem dX0_make_18 : decode cX0_make 18 = .ok (.goto (-16), 3) := by decide +kernel
theorem dX0_make_21 : decode cX0_make 21 = .ok (.aload_n 1, 1) := by decide +kernel
theorem dX0_make_22 : decode cX0_make 22 = .ok (.getfield 18, 3) := by decide +kernel
theorem dX0_make_25 : decode cX0_make 25 = .ok (.aload_n 0, 1) := by decide +kernel
theorem dX0_make_26 : decode cX0_make 26 = .ok (.getfield 15, 3) := by decide +kernel
theorem dX0_make_29 : decode cX0_make 29 = .ok (.invokestatic 23, 3) := by decide +kernel
theorem dX0_make_32 : decode cX0_make 32 = .ok (.iconst 0, 1) := by decide +kernel
theorem dX0_make_33 : decode cX0_make 33 = .ok (.istore_n 3, 1) := by decide +kernel
theorem dX0_make_34 : decode cX0_make 34 = .ok (.iload_n 3, 1) := by decide +kernel
theorem dX0_make_35 : decode cX0_make 35 = .ok (.aload_n 2, 1) := by decide +kernel
theorem dX0_make_36 : decode cX0_make 36 = .ok (.getfield 27, 3) := by decide +kernel
theorem dX0_make_39 : decode cX0_make 39 = .ok (.if_icmp .ge 62, 3) := by decide +kernel
theorem dX0_make_42 : decode cX0_make 42 = .ok (.aload_n 0, 1) := by decide +kernel
theorem dX0_make_43 : decode cX0_make 43 = .ok (.aload_n 2, 1) := by decide +kernel
theorem dX0_make_44 : decode cX0_make 44 = .ok (.invokevirtual 33, 3) := by decide +kernel
theorem dX0_make_47 : decode cX0_make 47 = .ok (.istore 4, 2) := by decide +kernel
theorem dX0_make_49 : decode cX0_make 49 = .ok (.aload_n 0, 1) := by decide +kernel
theorem dX0_make_50 : decode cX0_make 50 = .ok (.aload_n 1, 1) := by decide +kernel
theorem dX0_make_51 : decode cX0_make 51 = .ok (.invokevirtual 37, 3) := by decide +kernel
theorem dX0_make_54 : decode cX0_make 54 = .ok (.istore 5, 2) := by decide +kernel
theorem dX0_make_56 : decode cX0_make 56 = .ok (.iload 4, 2) := by decide +kernel
theorem dX0_make_58 : decode cX0_make 58 = .ok (.iconst (-1), 1) := by decide +kernel
theorem dX0_make_59 : decode cX0_make 59 = .ok (.if_icmp .eq 9, 3) := by decide +kernel
theorem dX0_make_62 : decode cX0_make 62 = .ok (.iload 5, 2) := by decide +kernel
theorem dX0_make_64 : decode cX0_make 64 = .ok (.iconst (-1), 1) := by decide +kernel
theorem dX0_make_65 : decode cX0_make 65 = .ok (.if_icmp .ne 4, 3) := by decide +kernel
theorem dX0_make_68 : decode cX0_make 68 = .ok (.return_, 1) := by decide +kernel
theorem dX0_make_69 : decode cX0_make 69 = .ok (.aload_n 0, 1) := by decide +kernel
theorem dX0_make_70 : decode cX0_make 70 = .ok (.getfield 9, 3) := by decide +kernel
theorem dX0_make_73 : decode cX0_make 73 = .ok (.iload 4, 2) := by decide +kernel
theorem dX0_make_75 : decode cX0_make 75 = .ok (.iload 5, 2) := by decide +kernel
theorem dX0_make_77 : decode cX0_make 77 = .ok (.iastore, 1) := by decide +kernel
theorem dX0_make_78 : decode cX0_make 78 = .ok (.aload_n 0, 1) := by decide +kernel
theorem dX0_make_79 : decode cX0_make 79 = .ok (.getfield 15, 3) := by decide +kernel
theorem dX0_make_82 : decode cX0_make 82 = .ok (.iload 5, 2) := by decide +kernel
theorem dX0_make_84 : decode cX0_make 84 = .ok (.dup2, 1) := by decide +kernel
theorem dX0_make_85 : decode cX0_make 85 = .ok (.iaload, 1) := by decide +kernel
theorem dX0_make_86 : decode cX0_make 86 = .ok (.aload_n 2, 1) := by decide +kernel
theorem dX0_make_87 : decode cX0_make 87 = .ok (.getfield 41, 3) := by decide +kernel
theorem dX0_make_90 : decode cX0_make 90 = .ok (.iload 4, 2) := by decide +kernel
theorem dX0_make_92 : decode cX0_make 92 = .ok (.iaload, 1) := by decide +kernel
theorem dX0_make_93 : decode cX0_make 93 = .ok (.iadd, 1) := by decide +kernel
theorem dX0_make_94 : decode cX0_make 94 = .ok (.iastore, 1) := by decide +kernel
theorem dX0_make_95 : decode cX0_make 95 = .ok (.iinc 3 1, 3) := by decide +kernel
theorem dX0_make_98 : decode cX0_make 98 = .ok (.goto (-64), 3) := by decide +kernel
theorem dX0_make_101 : decode cX0_make 101 = .ok (.return_, 1) := by decide +kernel
theorem dX0_longestLeft_0 : decode cX0_longestLeft 0 = .ok (.iconst (-1), 1) := by decide +kernel
theorem dX0_longestLeft_1 : decode cX0_longestLeft 1 = .ok (.istore_n 2, 1) := by decide +kernel
theorem dX0_longestLeft_2 : decode cX0_longestLeft 2 = .ok (.iconst 0, 1) := by decide +kernel
theorem dX0_longestLeft_3 : decode cX0_longestLeft 3 = .ok (.istore_n 3, 1) := by decide +kernel
theorem dX0_longestLeft_4 : decode cX0_longestLeft 4 = .ok (.iload_n 3, 1) := by decide +kernel
theorem dX0_longestLeft_5 : decode cX0_longestLeft 5 = .ok (.aload_n 1, 1) := by decide +kernel
theorem dX0_longestLeft_6 : decode cX0_longestLeft 6 = .ok (.getfield 27, 3) := by decide +kernel
theorem dX0_longestLeft_9 : decode cX0_longestLeft 9 = .ok (.if_icmp .ge 61, 3) := by decide +kernel
theorem dX0_longestLeft_12 : decode cX0_longestLeft 12 = .ok (.aload_n 1, 1) := by decide +kernel
theorem dX0_longestLeft_13 : decode cX0_longestLeft 13 = .ok (.iload_n 3, 1) := by decide +kernel
theorem dX0_longestLeft_14 : decode cX0_longestLeft 14 = .ok (.invokevirtual 44, 3) := by decide +kernel
theorem dX0_longestLeft_17 : decode cX0_longestLeft 17 = .ok (.ifCond .ne 17, 3) := by decide +kernel
theorem dX0_longestLeft_20 : decode cX0_longestLeft 20 = .ok (.aload_n 0, 1) := by decide +kernel
theorem dX0_longestLeft_21 : decode cX0_longestLeft 21 = .ok (.getfield 9, 3) := by decide +kernel
theorem dX0_longestLeft_24 : decode cX0_longestLeft 24 = .ok (.iload_n 3, 1) := by decide +kernel
theorem dX0_longestLeft_25 : decode cX0_longestLeft 25 = .ok (.iaload, 1) := by decide +kernel
theorem dX0_longestLeft_26 : decode cX0_longestLeft 26 = .ok (.iconst (-1), 1) := by decide +kernel
theorem dX0_longestLeft_27 : decode cX0_longestLeft 27 = .ok (.if_icmp .ne 7, 3) := by decide +kernel
theorem dX0_longestLeft_30 : decode cX0_longestLeft 30 = .ok (.iconst 1, 1) := by decide +kernel
theorem dX0_longestLeft_31 : decode cX0_longestLeft 31 = .ok (.goto 4, 3) := by decide +kernel
theorem dX0_longestLeft_34 : decode cX0_longestLeft 34 = .ok (.iconst 0, 1) := by decide +kernel
theorem dX0_longestLeft_35 : decode cX0_longestLeft 35 = .ok (.istore 4, 2) := by decide +kernel
theorem dX0_longestLeft_37 : decode cX0_longestLeft 37 = .ok (.iload 4, 2) := by decide +kernel
theorem dX0_longestLeft_39 : decode cX0_longestLeft 39 = .ok (.ifCond .eq 25, 3) := by decide +kernel
theorem dX0_longestLeft_42 : decode cX0_longestLeft 42 = .ok (.iload_n 2, 1) := by decide +kernel
theorem dX0_longestLeft_43 : decode cX0_longestLeft 43 = .ok (.iconst (-1), 1) := by decide +kernel
theorem dX0_longestLeft_44 : decode cX0_longestLeft 44 = .ok (.if_icmp .eq 18, 3) := by decide +kernel
theorem dX0_longestLeft_47 : decode cX0_longestLeft 47 = .ok (.aload_n 1, 1) := by decide +kernel
theorem dX0_longestLeft_48 : decode cX0_longestLeft 48 = .ok (.getfield 41, 3) := by decide +kernel
theorem dX0_longestLeft_51 : decode cX0_longestLeft 51 = .ok (.iload_n 3, 1) := by decide +kernel
theorem dX0_longestLeft_52 : decode cX0_longestLeft 52 = .ok (.iaload, 1) := by decide +kernel
theorem dX0_longestLeft_53 : decode cX0_longestLeft 53 = .ok (.aload_n 1, 1) := by decide +kernel
theorem dX0_longestLeft_54 : decode cX0_longestLeft 54 = .ok (.getfield 41, 3) := by decide +kernel
theorem dX0_longestLeft_57 : decode cX0_longestLeft 57 = .ok (.iload_n 2, 1) := by decide +kernel
theorem dX0_longestLeft_58 : decode cX0_longestLeft 58 = .ok (.iaload, 1) := by decide +kernel
theorem dX0_longestLeft_59 : decode cX0_longestLeft 59 = .ok (.if_icmp .le 5, 3) := by decide +kernel
theorem dX0_longestLeft_62 : decode cX0_longestLeft 62 = .ok (.iload_n 3, 1) := by decide +kernel
theorem dX0_longestLeft_63 : decode cX0_longestLeft 63 = .ok (.istore_n 2, 1) := by decide +kernel
theorem dX0_longestLeft_64 : decode cX0_longestLeft 64 = .ok (.iinc 3 1, 3) := by decide +kernel
theorem dX0_longestLeft_67 : decode cX0_longestLeft 67 = .ok (.goto (-63), 3) := by decide +kernel
theorem dX0_longestLeft_70 : decode cX0_longestLeft 70 = .ok (.iload_n 2, 1) := by decide +kernel
theorem dX0_longestLeft_71 : decode cX0_longestLeft 71 = .ok (.ireturn, 1) := by decide +kernel
theorem dX0_leastLoaded_0 : decode cX0_leastLoaded 0 = .ok (.iconst (-1), 1) := by decide +kernel
theorem dX0_leastLoaded_1 : decode cX0_leastLoaded 1 = .ok (.istore_n 2, 1) := by decide +kernel
theorem dX0_leastLoaded_2 : decode cX0_leastLoaded 2 = .ok (.iconst 0, 1) := by decide +kernel
theorem dX0_leastLoaded_3 : decode cX0_leastLoaded 3 = .ok (.istore_n 3, 1) := by decide +kernel
theorem dX0_leastLoaded_4 : decode cX0_leastLoaded 4 = .ok (.iload_n 3, 1) := by decide +kernel
theorem dX0_leastLoaded_5 : decode cX0_leastLoaded 5 = .ok (.aload_n 1, 1) := by decide +kernel
theorem dX0_leastLoaded_6 : decode cX0_leastLoaded 6 = .ok (.getfield 48, 3) := by decide +kernel
theorem dX0_leastLoaded_9 : decode cX0_leastLoaded 9 = .ok (.if_icmp .ge 39, 3) := by decide +kernel
theorem dX0_leastLoaded_12 : decode cX0_leastLoaded 12 = .ok (.aload_n 1, 1) := by decide +kernel
theorem dX0_leastLoaded_13 : decode cX0_leastLoaded 13 = .ok (.iload_n 3, 1) := by decide +kernel
theorem dX0_leastLoaded_14 : decode cX0_leastLoaded 14 = .ok (.invokevirtual 49, 3) := by decide +kernel
theorem dX0_leastLoaded_17 : decode cX0_leastLoaded 17 = .ok (.ifCond .ne 25, 3) := by decide +kernel
theorem dX0_leastLoaded_20 : decode cX0_leastLoaded 20 = .ok (.iload_n 2, 1) := by decide +kernel
theorem dX0_leastLoaded_21 : decode cX0_leastLoaded 21 = .ok (.iconst (-1), 1) := by decide +kernel
theorem dX0_leastLoaded_22 : decode cX0_leastLoaded 22 = .ok (.if_icmp .eq 18, 3) := by decide +kernel
theorem dX0_leastLoaded_25 : decode cX0_leastLoaded 25 = .ok (.aload_n 0, 1) := by decide +kernel
theorem dX0_leastLoaded_26 : decode cX0_leastLoaded 26 = .ok (.getfield 15, 3) := by decide +kernel
theorem dX0_leastLoaded_29 : decode cX0_leastLoaded 29 = .ok (.iload_n 3, 1) := by decide +kernel
theorem dX0_leastLoaded_30 : decode cX0_leastLoaded 30 = .ok (.iaload, 1) := by decide +kernel
theorem dX0_leastLoaded_31 : decode cX0_leastLoaded 31 = .ok (.aload_n 0, 1) := by decide +kernel
theorem dX0_leastLoaded_32 : decode cX0_leastLoaded 32 = .ok (.getfield 15, 3) := by decide +kernel
theorem dX0_leastLoaded_35 : decode cX0_leastLoaded 35 = .ok (.iload_n 2, 1) := by decide +kernel
theorem dX0_leastLoaded_36 : decode cX0_leastLoaded 36 = .ok (.iaload, 1) := by decide +kernel
theorem dX0_leastLoaded_37 : decode cX0_leastLoaded 37 = .ok (.if_icmp .ge 5, 3) := by decide +kernel
theorem dX0_leastLoaded_40 : decode cX0_leastLoaded 40 = .ok (.iload_n 3, 1) := by decide +kernel
theorem dX0_leastLoaded_41 : decode cX0_leastLoaded 41 = .ok (.istore_n 2, 1) := by decide +kernel
theorem dX0_leastLoaded_42 : decode cX0_leastLoaded 42 = .ok (.iinc 3 1, 3) := by decide +kernel
theorem dX0_leastLoaded_45 : decode cX0_leastLoaded 45 = .ok (.goto (-41), 3) := by decide +kernel
theorem dX0_leastLoaded_48 : decode cX0_leastLoaded 48 = .ok (.iload_n 2, 1) := by decide +kernel
theorem dX0_leastLoaded_49 : decode cX0_leastLoaded 49 = .ok (.ireturn, 1) := by decide +kernel
theorem dX1_init_0 : decode cX1_init 0 = .ok (.aload_n 0, 1) := by decide +kernel
theorem dX1_init_1 : decode cX1_init 1 = .ok (.invokespecial 3, 3) := by decide +kernel
theorem dX1_init_4 : decode cX1_init 4 = .ok (.aload_n 0, 1) := by decide +kernel
theorem dX1_init_5 : decode cX1_init 5 = .ok (.iconst 4, 1) := by decide +kernel
theorem dX1_init_6 : decode cX1_init 6 = .ok (.anewarray 9, 3) := by decide +kernel
theorem dX1_init_9 : decode cX1_init 9 = .ok (.putfield 11, 3) := by decide +kernel
theorem dX1_init_12 : decode cX1_init 12 = .ok (.aload_n 0, 1) := by decide +kernel
theorem dX1_init_13 : decode cX1_init 13 = .ok (.iconst 0, 1) := by decide +kernel
theorem dX1_init_14 : decode cX1_init 14 = .ok (.putfield 17, 3) := by decide +kernel
theorem dX1_init_17 : decode cX1_init 17 = .ok (.aload_n 0, 1) := by decide +kernel
theorem dX1_init_18 : decode cX1_init 18 = .ok (.iconst 0, 1) := by decide +kernel
theorem dX1_init_19 : decode cX1_init 19 = .ok (.putfield 21, 3) := by decide +kernel
theorem dX1_init_22 : decode cX1_init 22 = .ok (.return_, 1) := by decide +kernel
theorem dX1_record_0 : decode cX1_record 0 = .ok (.aload_n 0, 1) := by decide +kernel
theorem dX1_record_1 : decode cX1_record 1 = .ok (.getfield 11, 3) := by decide +kernel
theorem dX1_record_4 : decode cX1_record 4 = .ok (.aload_n 0, 1) := by decide +kernel
theorem dX1_record_5 : decode cX1_record 5 = .ok (.getfield 17, 3) := by decide +kernel
theorem dX1_record_8 : decode cX1_record 8 = .ok (.aaload, 1) := by decide +kernel
theorem dX1_record_9 : decode cX1_record 9 = .ok (.astore_n 2, 1) := by decide +kernel
theorem dX1_record_10 : decode cX1_record 10 = .ok (.aload_n 2, 1) := by decide +kernel
theorem dX1_record_11 : decode cX1_record 11 = .ok (.ifnonnull 21, 3) := by decide +kernel
theorem dX1_record_14 : decode cX1_record 14 = .ok (.new 9, 3) := by decide +kernel
theorem dX1_record_17 : decode cX1_record 17 = .ok (.dup, 1) := by decide +kernel
theorem dX1_record_18 : decode cX1_record 18 = .ok (.invokespecial 24, 3) := by decide +kernel
theorem dX1_record_21 : decode cX1_record 21 = .ok (.astore_n 2, 1) := by decide +kernel
theorem dX1_record_22 : decode cX1_record 22 = .ok (.aload_n 0, 1) := by decide +kernel
theorem dX1_record_23 : decode cX1_record 23 = .ok (.getfield 11, 3) := by decide +kernel
theorem dX1_record_26 : decode cX1_record 26 = .ok (.aload_n 0, 1) := by decide +kernel
theorem dX1_record_27 : decode cX1_record 27 = .ok (.getfield 17, 3) := by decide +kernel
theorem dX1_record_30 : decode cX1_record 30 = .ok (.aload_n 2, 1) := by decide +kernel
theorem dX1_record_31 : decode cX1_record 31 = .ok (.aastore, 1) := by decide +kernel
theorem dX1_record_32 : decode cX1_record 32 = .ok (.aload_n 2, 1) := by decide +kernel
theorem dX1_record_33 : decode cX1_record 33 = .ok (.aload_n 1, 1) := by decide +kernel
theorem dX1_record_34 : decode cX1_record 34 = .ok (.invokevirtual 25, 3) := by decide +kernel
theorem dX1_record_37 : decode cX1_record 37 = .ok (.aload_n 0, 1) := by decide +kernel
theorem dX1_record_38 : decode cX1_record 38 = .ok (.aload_n 0, 1) := by decide +kernel
theorem dX1_record_39 : decode cX1_record 39 = .ok (.getfield 17, 3) := by decide +kernel
theorem dX1_record_42 : decode cX1_record 42 = .ok (.iconst 1, 1) := by decide +kernel
theorem dX1_record_43 : decode cX1_record 43 = .ok (.iadd, 1) := by decide +kernel
theorem dX1_record_44 : decode cX1_record 44 = .ok (.iconst 4, 1) := by decide +kernel
theorem dX1_record_45 : decode cX1_record 45 = .ok (.irem, 1) := by decide +kernel
theorem dX1_record_46 : decode cX1_record 46 = .ok (.putfield 17, 3) := by decide +kernel
theorem dX1_record_49 : decode cX1_record 49 = .ok (.aload_n 0, 1) := by decide +kernel
theorem dX1_record_50 : decode cX1_record 50 = .ok (.aload_n 0, 1) := by decide +kernel
theorem dX1_record_51 : decode cX1_record 51 = .ok (.getfield 21, 3) := by decide +kernel
theorem dX1_record_54 : decode cX1_record 54 = .ok (.iconst 1, 1) := by decide +kernel
theorem dX1_record_55 : decode cX1_record 55 = .ok (.iadd, 1) := by decide +kernel
theorem dX1_record_56 : decode cX1_record 56 = .ok (.iconst 4, 1) := by decide +kernel
theorem dX1_record_57 : decode cX1_record 57 = .ok (.invokestatic 29, 3) := by decide +kernel
theorem dX1_record_60 : decode cX1_record 60 = .ok (.putfield 21, 3) := by decide +kernel
theorem dX1_record_63 : decode cX1_record 63 = .ok (.return_, 1) := by decide +kernel
theorem dX1_restoreTo_0 : decode cX1_restoreTo 0 = .ok (.aload_n 0, 1) := by decide +kernel
theorem dX1_restoreTo_1 : decode cX1_restoreTo 1 = .ok (.getfield 17, 3) := by decide +kernel
theorem dX1_restoreTo_4 : decode cX1_restoreTo 4 = .ok (.iconst 4, 1) := by decide +kernel
theorem dX1_restoreTo_5 : decode cX1_restoreTo 5 = .ok (.iadd, 1) := by decide +kernel
theorem dX1_restoreTo_6 : decode cX1_restoreTo 6 = .ok (.iconst 1, 1) := by decide +kernel
theorem dX1_restoreTo_7 : decode cX1_restoreTo 7 = .ok (.isub, 1) := by decide +kernel
theorem dX1_restoreTo_8 : decode cX1_restoreTo 8 = .ok (.iconst 4, 1) := by decide +kernel
theorem dX1_restoreTo_9 : decode cX1_restoreTo 9 = .ok (.irem, 1) := by decide +kernel
theorem dX1_restoreTo_10 : decode cX1_restoreTo 10 = .ok (.istore_n 2, 1) := by decide +kernel
theorem dX1_restoreTo_11 : decode cX1_restoreTo 11 = .ok (.aload_n 0, 1) := by decide +kernel
theorem dX1_restoreTo_12 : decode cX1_restoreTo 12 = .ok (.getfield 11, 3) := by decide +kernel
theorem dX1_restoreTo_15 : decode cX1_restoreTo 15 = .ok (.iload_n 2, 1) := by decide +kernel
theorem dX1_restoreTo_16 : decode cX1_restoreTo 16 = .ok (.aaload, 1) := by decide +kernel
theorem dX1_restoreTo_17 : decode cX1_restoreTo 17 = .ok (.astore_n 3, 1) := by decide +kernel
theorem dX1_restoreTo_18 : decode cX1_restoreTo 18 = .ok (.aload_n 0, 1) := by decide +kernel
theorem dX1_restoreTo_19 : decode cX1_restoreTo 19 = .ok (.getfield 21, 3) := by decide +kernel
theorem dX1_restoreTo_22 : decode cX1_restoreTo 22 = .ok (.ifCond .eq 7, 3) := by decide +kernel
theorem dX1_restoreTo_25 : decode cX1_restoreTo 25 = .ok (.aload_n 3, 1) := by decide +kernel
theorem dX1_restoreTo_26 : decode cX1_restoreTo 26 = .ok (.ifnonnull 4, 3) := by decide +kernel
theorem dX1_restoreTo_29 : decode cX1_restoreTo 29 = .ok (.return_, 1) := by decide +kernel
theorem dX1_restoreTo_30 : decode cX1_restoreTo 30 = .ok (.aload_n 1, 1) := by decide +kernel
theorem dX1_restoreTo_31 : decode cX1_restoreTo 31 = .ok (.aload_n 3, 1) := by decide +kernel
theorem dX1_restoreTo_32 : decode cX1_restoreTo 32 = .ok (.invokevirtual 25, 3) := by decide +kernel
theorem dX1_restoreTo_35 : decode cX1_restoreTo 35 = .ok (.aload_n 0, 1) := by decide +kernel
theorem dX1_restoreTo_36 : decode cX1_restoreTo 36 = .ok (.iload_n 2, 1) := by decide +kernel
theorem dX1_restoreTo_37 : decode cX1_restoreTo 37 = .ok (.putfield 17, 3) := by decide +kernel
theorem dX1_restoreTo_40 : decode cX1_restoreTo 40 = .ok (.aload_n 0, 1) := by decide +kernel
theorem dX1_restoreTo_41 : decode cX1_restoreTo 41 = .ok (.dup, 1) := by decide +kernel
theorem dX1_restoreTo_42 : decode cX1_restoreTo 42 = .ok (.getfield 21, 3) := by decide +kernel
theorem dX1_restoreTo_45 : decode cX1_restoreTo 45 = .ok (.iconst 1, 1) := by decide +kernel
theorem dX1_restoreTo_46 : decode cX1_restoreTo 46 = .ok (.isub, 1) := by decide +kernel
theorem dX1_restoreTo_47 : decode cX1_restoreTo 47 = .ok (.putfield 21, 3) := by decide +kernel
theorem dX1_restoreTo_50 : decode cX1_restoreTo 50 = .ok (.return_, 1) := by decide +kernel
theorem dX2_init_0 : decode cX2_init 0 = .ok (.aload_n 0, 1) := by decide +kernel
theorem dX2_init_1 : decode cX2_init 1 = .ok (.invokespecial 3, 3) := by decide +kernel
theorem dX2_init_4 : decode cX2_init 4 = .ok (.aload_n 0, 1) := by decide +kernel
theorem dX2_init_5 : decode cX2_init 5 = .ok (.iconst 0, 1) := by decide +kernel
theorem dX2_init_6 : decode cX2_init 6 = .ok (.putfield 9, 3) := by decide +kernel
theorem dX2_init_9 : decode cX2_init 9 = .ok (.aload_n 0, 1) := by decide +kernel
theorem dX2_init_10 : decode cX2_init 10 = .ok (.bipush 16, 2) := by decide +kernel
theorem dX2_init_12 : decode cX2_init 12 = .ok (.newarray .int, 2) := by decide +kernel
theorem dX2_init_14 : decode cX2_init 14 = .ok (.putfield 15, 3) := by decide +kernel
theorem dX2_init_17 : decode cX2_init 17 = .ok (.aload_n 0, 1) := by decide +kernel
theorem dX2_init_18 : decode cX2_init 18 = .ok (.bipush 16, 2) := by decide +kernel
theorem dX2_init_20 : decode cX2_init 20 = .ok (.newarray .int, 2) := by decide +kernel
theorem dX2_init_22 : decode cX2_init 22 = .ok (.putfield 19, 3) := by decide +kernel
theorem dX2_init_25 : decode cX2_init 25 = .ok (.aload_n 0, 1) := by decide +kernel
theorem dX2_init_26 : decode cX2_init 26 = .ok (.bipush 16, 2) := by decide +kernel
theorem dX2_init_28 : decode cX2_init 28 = .ok (.newarray .int, 2) := by decide +kernel
theorem dX2_init_30 : decode cX2_init 30 = .ok (.putfield 22, 3) := by decide +kernel
theorem dX2_init_33 : decode cX2_init 33 = .ok (.aload_n 0, 1) := by decide +kernel
theorem dX2_init_34 : decode cX2_init 34 = .ok (.bipush 16, 2) := by decide +kernel
theorem dX2_init_36 : decode cX2_init 36 = .ok (.newarray .int, 2) := by decide +kernel
theorem dX2_init_38 : decode cX2_init 38 = .ok (.putfield 25, 3) := by decide +kernel
theorem dX2_init_41 : decode cX2_init 41 = .ok (.aload_n 0, 1) := by decide +kernel
theorem dX2_init_42 : decode cX2_init 42 = .ok (.bipush 16, 2) := by decide +kernel
theorem dX2_init_44 : decode cX2_init 44 = .ok (.newarray .int, 2) := by decide +kernel
theorem dX2_init_46 : decode cX2_init 46 = .ok (.putfield 28, 3) := by decide +kernel
theorem dX2_init_49 : decode cX2_init 49 = .ok (.aload_n 0, 1) := by decide +kernel
theorem dX2_init_50 : decode cX2_init 50 = .ok (.bipush 16, 2) := by decide +kernel
theorem dX2_init_52 : decode cX2_init 52 = .ok (.newarray .int, 2) := by decide +kernel
theorem dX2_init_54 : decode cX2_init 54 = .ok (.putfield 31, 3) := by decide +kernel
theorem dX2_init_57 : decode cX2_init 57 = .ok (.aload_n 0, 1) := by decide +kernel
theorem dX2_init_58 : decode cX2_init 58 = .ok (.bipush 16, 2) := by decide +kernel
theorem dX2_init_60 : decode cX2_init 60 = .ok (.newarray .int, 2) := by decide +kernel
theorem dX2_init_62 : decode cX2_init 62 = .ok (.putfield 34, 3) := by decide +kernel
theorem dX2_init_65 : decode cX2_init 65 = .ok (.aload_n 0, 1) := by decide +kernel
theorem dX2_init_66 : decode cX2_init 66 = .ok (.bipush 16, 2) := by decide +kernel
theorem dX2_init_68 : decode cX2_init 68 = .ok (.newarray .int, 2) := by decide +kernel
theorem dX2_init_70 : decode cX2_init 70 = .ok (.putfield 37, 3) := by decide +kernel
theorem dX2_init_73 : decode cX2_init 73 = .ok (.aload_n 0, 1) := by decide +kernel
theorem dX2_init_74 : decode cX2_init 74 = .ok (.bipush 16, 2) := by decide +kernel
theorem dX2_init_76 : decode cX2_init 76 = .ok (.newarray .int, 2) := by decide +kernel
theorem dX2_init_78 : decode cX2_init 78 = .ok (.putfield 40, 3) := by decide +kernel
theorem dX2_init_81 : decode cX2_init 81 = .ok (.aload_n 0, 1) := by decide +kernel
theorem dX2_init_82 : decode cX2_init 82 = .ok (.bipush 16, 2) := by decide +kernel
theorem dX2_init_84 : decode cX2_init 84 = .ok (.newarray .int, 2) := by decide +kernel
theorem dX2_init_86 : decode cX2_init 86 = .ok (.putfield 43, 3) := by decide +kernel
theorem dX2_init_89 : decode cX2_init 89 = .ok (.return_, 1) := by decide +kernel
theorem dX2_copyFrom_0 : decode cX2_copyFrom 0 = .ok (.aload_n 0, 1) := by decide +kernel
theorem dX2_copyFrom_1 : decode cX2_copyFrom 1 = .ok (.aload_n 1, 1) := by decide +kernel
theorem dX2_copyFrom_2 : decode cX2_copyFrom 2 = .ok (.getfield 9, 3) := by decide +kernel
theorem dX2_copyFrom_5 : decode cX2_copyFrom 5 = .ok (.putfield 9, 3) := by decide +kernel
theorem dX2_copyFrom_8 : decode cX2_copyFrom 8 = .ok (.aload_n 1, 1) := by decide +kernel
theorem dX2_copyFrom_9 : decode cX2_copyFrom 9 = .ok (.getfield 15, 3) := by decide +kernel
theorem dX2_copyFrom_12 : decode cX2_copyFrom 12 = .ok (.aload_n 0, 1) := by decide +kernel
theorem dX2_copyFrom_13 : decode cX2_copyFrom 13 = .ok (.getfield 15, 3) := by decide +kernel
theorem dX2_copyFrom_16 : decode cX2_copyFrom 16 = .ok (.invokestatic 46, 3) := by decide +kernel
theorem dX2_copyFrom_19 : decode cX2_copyFrom 19 = .ok (.aload_n 1, 1) := by decide +kernel
theorem dX2_copyFrom_20 : decode cX2_copyFrom 20 = .ok (.getfield 19, 3) := by decide +kernel
theorem dX2_copyFrom_23 : decode cX2_copyFrom 23 = .ok (.aload_n 0, 1) := by decide +kernel
theorem dX2_copyFrom_24 : decode cX2_copyFrom 24 = .ok (.getfield 19, 3) := by decide +kernel
theorem dX2_copyFrom_27 : decode cX2_copyFrom 27 = .ok (.invokestatic 46, 3) := by decide +kernel
theorem dX2_copyFrom_30 : decode cX2_copyFrom 30 = .ok (.aload_n 1, 1) := by decide +kernel
theorem dX2_copyFrom_31 : decode cX2_copyFrom 31 = .ok (.getfield 22, 3) := by decide +kernel
theorem dX2_copyFrom_34 : decode cX2_copyFrom 34 = .ok (.aload_n 0, 1) := by decide +kernel
theorem dX2_copyFrom_35 : decode cX2_copyFrom 35 = .ok (.getfield 22, 3) := by decide +kernel
theorem dX2_copyFrom_38 : decode cX2_copyFrom 38 = .ok (.invokestatic 46, 3) := by decide +kernel
theorem dX2_copyFrom_41 : decode cX2_copyFrom 41 = .ok (.aload_n 1, 1) := by decide +kernel
theorem dX2_copyFrom_42 : decode cX2_copyFrom 42 = .ok (.getfield 25, 3) := by decide +kernel
theorem dX2_copyFrom_45 : decode cX2_copyFrom 45 = .ok (.aload_n 0, 1) := by decide +kernel
theorem dX2_copyFrom_46 : decode cX2_copyFrom 46 = .ok (.getfield 25, 3) := by decide +kernel
theorem dX2_copyFrom_49 : decode cX2_copyFrom 49 = .ok (.invokestatic 46, 3) := by decide +kernel
theorem dX2_copyFrom_52 : decode cX2_copyFrom 52 = .ok (.aload_n 1, 1) := by decide +kernel
theorem dX2_copyFrom_53 : decode cX2_copyFrom 53 = .ok (.getfield 28, 3) := by decide +kernel
theorem dX2_copyFrom_56 : decode cX2_copyFrom 56 = .ok (.aload_n 0, 1) := by decide +kernel
theorem dX2_copyFrom_57 : decode cX2_copyFrom 57 = .ok (.getfield 28, 3) := by decide +kernel
theorem dX2_copyFrom_60 : decode cX2_copyFrom 60 = .ok (.invokestatic 46, 3) := by decide +kernel
theorem dX2_copyFrom_63 : decode cX2_copyFrom 63 = .ok (.aload_n 1, 1) := by decide +kernel
theorem dX2_copyFrom_64 : decode cX2_copyFrom 64 = .ok (.getfield 31, 3) := by decide +kernel
theorem dX2_copyFrom_67 : decode cX2_copyFrom 67 = .ok (.aload_n 0, 1) := by decide +kernel
theorem dX2_copyFrom_68 : decode cX2_copyFrom 68 = .ok (.getfield 31, 3) := by decide +kernel
theorem dX2_copyFrom_71 : decode cX2_copyFrom 71 = .ok (.invokestatic 46, 3) := by decide +kernel
theorem dX2_copyFrom_74 : decode cX2_copyFrom 74 = .ok (.aload_n 1, 1) := by decide +kernel
theorem dX2_copyFrom_75 : decode cX2_copyFrom 75 = .ok (.getfield 34, 3) := by decide +kernel
theorem dX2_copyFrom_78 : decode cX2_copyFrom 78 = .ok (.aload_n 0, 1) := by decide +kernel
theorem dX2_copyFrom_79 : decode cX2_copyFrom 79 = .ok (.getfield 34, 3) := by decide +kernel
theorem dX2_copyFrom_82 : decode cX2_copyFrom 82 = .ok (.invokestatic 46, 3) := by decide +kernel
theorem dX2_copyFrom_85 : decode cX2_copyFrom 85 = .ok (.aload_n 1, 1) := by decide +kernel
theorem dX2_copyFrom_86 : decode cX2_copyFrom 86 = .ok (.getfield 37, 3) := by decide +kernel
theorem dX2_copyFrom_89 : decode cX2_copyFrom 89 = .ok (.aload_n 0, 1) := by decide +kernel
theorem dX2_copyFrom_90 : decode cX2_copyFrom 90 = .ok (.getfield 37, 3) := by decide +kernel
theorem dX2_copyFrom_93 : decode cX2_copyFrom 93 = .ok (.invokestatic 46, 3) := by decide +kernel
theorem dX2_copyFrom_96 : decode cX2_copyFrom 96 = .ok (.aload_n 1, 1) := by decide +kernel
theorem dX2_copyFrom_97 : decode cX2_copyFrom 97 = .ok (.getfield 40, 3) := by decide +kernel
theorem dX2_copyFrom_100 : decode cX2_copyFrom 100 = .ok (.aload_n 0, 1) := by decide +kernel
theorem dX2_copyFrom_101 : decode cX2_copyFrom 101 = .ok (.getfield 40, 3) := by decide +kernel
theorem dX2_copyFrom_104 : decode cX2_copyFrom 104 = .ok (.invokestatic 46, 3) := by decide +kernel
theorem dX2_copyFrom_107 : decode cX2_copyFrom 107 = .ok (.aload_n 1, 1) := by decide +kernel
theorem dX2_copyFrom_108 : decode cX2_copyFrom 108 = .ok (.getfield 43, 3) := by decide +kernel
theorem dX2_copyFrom_111 : decode cX2_copyFrom 111 = .ok (.aload_n 0, 1) := by decide +kernel
theorem dX2_copyFrom_112 : decode cX2_copyFrom 112 = .ok (.getfield 43, 3) := by decide +kernel
theorem dX2_copyFrom_115 : decode cX2_copyFrom 115 = .ok (.invokestatic 46, 3) := by decide +kernel
theorem dX2_copyFrom_118 : decode cX2_copyFrom 118 = .ok (.return_, 1) := by decide +kernel
theorem dX2_has_0 : decode cX2_has 0 = .ok (.iload_n 1, 1) := by decide +kernel
theorem dX2_has_1 : decode cX2_has 1 = .ok (.iconst 0, 1) := by decide +kernel
theorem dX2_has_2 : decode cX2_has 2 = .ok (.aload_n 0, 1) := by decide +kernel
theorem dX2_has_3 : decode cX2_has 3 = .ok (.getfield 9, 3) := by decide +kernel
theorem dX2_has_6 : decode cX2_has 6 = .ok (.iconst 1, 1) := by decide +kernel
theorem dX2_has_7 : decode cX2_has 7 = .ok (.isub, 1) := by decide +kernel
theorem dX2_has_8 : decode cX2_has 8 = .ok (.invokestatic 50, 3) := by decide +kernel
theorem dX2_has_11 : decode cX2_has 11 = .ok (.ireturn, 1) := by decide +kernel
theorem dX2_isDrawn_0 : decode cX2_isDrawn 0 = .ok (.aload_n 0, 1) := by decide +kernel
theorem dX2_isDrawn_1 : decode cX2_isDrawn 1 = .ok (.getfield 34, 3) := by decide +kernel
theorem dX2_isDrawn_4 : decode cX2_isDrawn 4 = .ok (.iload_n 1, 1) := by decide +kernel
theorem dX2_isDrawn_5 : decode cX2_isDrawn 5 = .ok (.iaload, 1) := by decide +kernel
theorem dX2_isDrawn_6 : decode cX2_isDrawn 6 = .ok (.iconst (-1), 1) := by decide +kernel
theorem dX2_isDrawn_7 : decode cX2_isDrawn 7 = .ok (.if_icmp .eq 7, 3) := by decide +kernel
theorem dX2_isDrawn_10 : decode cX2_isDrawn 10 = .ok (.iconst 1, 1) := by decide +kernel
theorem dX2_isDrawn_11 : decode cX2_isDrawn 11 = .ok (.goto 4, 3) := by decide +kernel
theorem dX2_isDrawn_14 : decode cX2_isDrawn 14 = .ok (.iconst 0, 1) := by decide +kernel
theorem dX2_isDrawn_15 : decode cX2_isDrawn 15 = .ok (.ireturn, 1) := by decide +kernel
theorem dX2_add_0 : decode cX2_add 0 = .ok (.aload_n 0, 1) := by decide +kernel
theorem dX2_add_1 : decode cX2_add 1 = .ok (.getfield 9, 3) := by decide +kernel
theorem dX2_add_4 : decode cX2_add 4 = .ok (.istore 5, 2) := by decide +kernel
theorem dX2_add_6 : decode cX2_add 6 = .ok (.aload_n 0, 1) := by decide +kernel
theorem dX2_add_7 : decode cX2_add 7 = .ok (.getfield 15, 3) := by decide +kernel
theorem dX2_add_10 : decode cX2_add 10 = .ok (.iload 5, 2) := by decide +kernel
theorem dX2_add_12 : decode cX2_add 12 = .ok (.iload_n 1, 1) := by decide +kernel
theorem dX2_add_13 : decode cX2_add 13 = .ok (.iastore, 1) := by decide +kernel
theorem dX2_add_14 : decode cX2_add 14 = .ok (.aload_n 0, 1) := by decide +kernel
theorem dX2_add_15 : decode cX2_add 15 = .ok (.getfield 19, 3) := by decide +kernel
theorem dX2_add_18 : decode cX2_add 18 = .ok (.iload 5, 2) := by decide +kernel
theorem dX2_add_20 : decode cX2_add 20 = .ok (.iload_n 2, 1) := by decide +kernel
theorem dX2_add_21 : decode cX2_add 21 = .ok (.iastore, 1) := by decide +kernel
theorem dX2_add_22 : decode cX2_add 22 = .ok (.aload_n 0, 1) := by decide +kernel
theorem dX2_add_23 : decode cX2_add 23 = .ok (.getfield 22, 3) := by decide +kernel
theorem dX2_add_26 : decode cX2_add 26 = .ok (.iload 5, 2) := by decide +kernel
theorem dX2_add_28 : decode cX2_add 28 = .ok (.iload_n 3, 1) := by decide +kernel
theorem dX2_add_29 : decode cX2_add 29 = .ok (.iastore, 1) := by decide +kernel
theorem dX2_add_30 : decode cX2_add 30 = .ok (.aload_n 0, 1) := by decide +kernel
theorem dX2_add_31 : decode cX2_add 31 = .ok (.getfield 25, 3) := by decide +kernel
theorem dX2_add_34 : decode cX2_add 34 = .ok (.iload 5, 2) := by decide +kernel
theorem dX2_add_36 : decode cX2_add 36 = .ok (.iload 4, 2) := by decide +kernel
theorem dX2_add_38 : decode cX2_add 38 = .ok (.iastore, 1) := by decide +kernel
theorem dX2_add_39 : decode cX2_add 39 = .ok (.aload_n 0, 1) := by decide +kernel
theorem dX2_add_40 : decode cX2_add 40 = .ok (.getfield 28, 3) := by decide +kernel
theorem dX2_add_43 : decode cX2_add 43 = .ok (.iload 5, 2) := by decide +kernel
theorem dX2_add_45 : decode cX2_add 45 = .ok (.iload_n 1, 1) := by decide +kernel
theorem dX2_add_46 : decode cX2_add 46 = .ok (.iload_n 2, 1) := by decide +kernel
theorem dX2_add_47 : decode cX2_add 47 = .ok (.iload_n 3, 1) := by decide +kernel
theorem dX2_add_48 : decode cX2_add 48 = .ok (.iload 4, 2) := by decide +kernel
theorem dX2_add_50 : decode cX2_add 50 = .ok (.invokestatic 54, 3) := by decide +kernel
theorem dX2_add_53 : decode cX2_add 53 = .ok (.iastore, 1) := by decide +kernel
theorem dX2_add_54 : decode cX2_add 54 = .ok (.aload_n 0, 1) := by decide +kernel
theorem dX2_add_55 : decode cX2_add 55 = .ok (.getfield 34, 3) := by decide +kernel
theorem dX2_add_58 : decode cX2_add 58 = .ok (.iload 5, 2) := by decide +kernel
theorem dX2_add_60 : decode cX2_add 60 = .ok (.iconst (-1), 1) := by decide +kernel
theorem dX2_add_61 : decode cX2_add 61 = .ok (.iastore, 1) := by decide +kernel
theorem dX2_add_62 : decode cX2_add 62 = .ok (.aload_n 0, 1) := by decide +kernel
theorem dX2_add_63 : decode cX2_add 63 = .ok (.iload 5, 2) := by decide +kernel
theorem dX2_add_65 : decode cX2_add 65 = .ok (.invokevirtual 58, 3) := by decide +kernel
theorem dX2_add_68 : decode cX2_add 68 = .ok (.aload_n 0, 1) := by decide +kernel
theorem dX2_add_69 : decode cX2_add 69 = .ok (.dup, 1) := by decide +kernel
theorem dX2_add_70 : decode cX2_add 70 = .ok (.getfield 9, 3) := by decide +kernel
theorem dX2_add_73 : decode cX2_add 73 = .ok (.iconst 1, 1) := by decide +kernel
theorem dX2_add_74 : decode cX2_add 74 = .ok (.iadd, 1) := by decide +kernel
theorem dX2_add_75 : decode cX2_add 75 = .ok (.putfield 9, 3) := by decide +kernel
theorem dX2_add_78 : decode cX2_add 78 = .ok (.iload 5, 2) := by decide +kernel
theorem dX2_add_80 : decode cX2_add 80 = .ok (.ireturn, 1) := by decide +kernel
theorem dX2_noteTouching_0 : decode cX2_noteTouching 0 = .ok (.aload_n 0, 1) := by decide +kernel
theorem dX2_noteTouching_1 : decode cX2_noteTouching 1 = .ok (.getfield 31, 3) := by decide +kernel
theorem dX2_noteTouching_4 : decode cX2_noteTouching 4 = .ok (.iload_n 1, 1) := by decide +kernel
theorem dX2_noteTouching_5 : decode cX2_noteTouching 5 = .ok (.iconst 0, 1) := by decide +kernel
theorem dX2_noteTouching_6 : decode cX2_noteTouching 6 = .ok (.iastore, 1) := by decide +kernel
theorem dX2_noteTouching_7 : decode cX2_noteTouching 7 = .ok (.iconst 0, 1) := by decide +kernel
theorem dX2_noteTouching_8 : decode cX2_noteTouching 8 = .ok (.istore_n 2, 1) := by decide +kernel
theorem dX2_noteTouching_9 : decode cX2_noteTouching 9 = .ok (.iload_n 2, 1) := by decide +kernel
theorem dX2_noteTouching_10 : decode cX2_noteTouching 10 = .ok (.iload_n 1, 1) := by decide +kernel
theorem dX2_noteTouching_11 : decode cX2_noteTouching 11 = .ok (.if_icmp .ge 42, 3) := by decide +kernel
theorem dX2_noteTouching_14 : decode cX2_noteTouching 14 = .ok (.aload_n 0, 1) := by decide +kernel
theorem dX2_noteTouching_15 : decode cX2_noteTouching 15 = .ok (.iload_n 1, 1) := by decide +kernel
theorem dX2_noteTouching_16 : decode cX2_noteTouching 16 = .ok (.iload_n 2, 1) := by decide +kernel
theorem dX2_noteTouching_17 : decode cX2_noteTouching 17 = .ok (.invokevirtual 62, 3) := by decide +kernel
theorem dX2_noteTouching_20 : decode cX2_noteTouching 20 = .ok (.ifCond .eq 27, 3) := by decide +kernel
theorem dX2_noteTouching_23 : decode cX2_noteTouching 23 = .ok (.aload_n 0, 1) := by decide +kernel
theorem dX2_noteTouching_24 : decode cX2_noteTouching 24 = .ok (.getfield 31, 3) := by decide +kernel
theorem dX2_noteTouching_27 : decode cX2_noteTouching 27 = .ok (.iload_n 1, 1) := by decide +kernel
theorem dX2_noteTouching_28 : decode cX2_noteTouching 28 = .ok (.dup2, 1) := by decide +kernel
theorem dX2_noteTouching_29 : decode cX2_noteTouching 29 = .ok (.iaload, 1) := by decide +kernel
theorem dX2_noteTouching_30 : decode cX2_noteTouching 30 = .ok (.iconst 1, 1) := by decide +kernel
theorem dX2_noteTouching_31 : decode cX2_noteTouching 31 = .ok (.iload_n 2, 1) := by decide +kernel
theorem dX2_noteTouching_32 : decode cX2_noteTouching 32 = .ok (.ishl, 1) := by decide +kernel
theorem dX2_noteTouching_33 : decode cX2_noteTouching 33 = .ok (.ior, 1) := by decide +kernel
theorem dX2_noteTouching_34 : decode cX2_noteTouching 34 = .ok (.iastore, 1) := by decide +kernel
theorem dX2_noteTouching_35 : decode cX2_noteTouching 35 = .ok (.aload_n 0, 1) := by decide +kernel
theorem dX2_noteTouching_36 : decode cX2_noteTouching 36 = .ok (.getfield 31, 3) := by decide +kernel
theorem dX2_noteTouching_39 : decode cX2_noteTouching 39 = .ok (.iload_n 2, 1) := by decide +kernel
theorem dX2_noteTouching_40 : decode cX2_noteTouching 40 = .ok (.dup2, 1) := by decide +kernel
theorem dX2_noteTouching_41 : decode cX2_noteTouching 41 = .ok (.iaload, 1) := by decide +kernel
theorem dX2_noteTouching_42 : decode cX2_noteTouching 42 = .ok (.iconst 1, 1) := by decide +kernel
theorem dX2_noteTouching_43 : decode cX2_noteTouching 43 = .ok (.iload_n 1, 1) := by decide +kernel
theorem dX2_noteTouching_44 : decode cX2_noteTouching 44 = .ok (.ishl, 1) := by decide +kernel
theorem dX2_noteTouching_45 : decode cX2_noteTouching 45 = .ok (.ior, 1) := by decide +kernel
theorem dX2_noteTouching_46 : decode cX2_noteTouching 46 = .ok (.iastore, 1) := by decide +kernel
theorem dX2_noteTouching_47 : decode cX2_noteTouching 47 = .ok (.iinc 2 1, 3) := by decide +kernel
theorem dX2_noteTouching_50 : decode cX2_noteTouching 50 = .ok (.goto (-41), 3) := by decide +kernel
theorem dX2_noteTouching_53 : decode cX2_noteTouching 53 = .ok (.return_, 1) := by decide +kernel
theorem dX2_isTouching_0 : decode cX2_isTouching 0 = .ok (.aload_n 0, 1) := by decide +kernel
theorem dX2_isTouching_1 : decode cX2_isTouching 1 = .ok (.getfield 31, 3) := by decide +kernel
theorem dX2_isTouching_4 : decode cX2_isTouching 4 = .ok (.iload_n 1, 1) := by decide +kernel
theorem dX2_isTouching_5 : decode cX2_isTouching 5 = .ok (.iaload, 1) := by decide +kernel
theorem dX2_isTouching_6 : decode cX2_isTouching 6 = .ok (.iconst 1, 1) := by decide +kernel
theorem dX2_isTouching_7 : decode cX2_isTouching 7 = .ok (.iload_n 2, 1) := by decide +kernel
theorem dX2_isTouching_8 : decode cX2_isTouching 8 = .ok (.ishl, 1) := by decide +kernel
theorem dX2_isTouching_9 : decode cX2_isTouching 9 = .ok (.iand, 1) := by decide +kernel
theorem dX2_isTouching_10 : decode cX2_isTouching 10 = .ok (.ifCond .eq 7, 3) := by decide +kernel
theorem dX2_isTouching_13 : decode cX2_isTouching 13 = .ok (.iconst 1, 1) := by decide +kernel
theorem dX2_isTouching_14 : decode cX2_isTouching 14 = .ok (.goto 4, 3) := by decide +kernel
theorem dX2_isTouching_17 : decode cX2_isTouching 17 = .ok (.iconst 0, 1) := by decide +kernel
theorem dX2_isTouching_18 : decode cX2_isTouching 18 = .ok (.ireturn, 1) := by decide +kernel
theorem dX2_beginX_0 : decode cX2_beginX 0 = .ok (.iload_n 2, 1) := by decide +kernel
theorem dX2_beginX_1 : decode cX2_beginX 1 = .ok (.ifCond .ne 12, 3) := by decide +kernel
theorem dX2_beginX_4 : decode cX2_beginX 4 = .ok (.aload_n 0, 1) := by decide +kernel
theorem dX2_beginX_5 : decode cX2_beginX 5 = .ok (.getfield 15, 3) := by decide +kernel
theorem dX2_beginX_8 : decode cX2_beginX 8 = .ok (.iload_n 1, 1) := by decide +kernel
theorem dX2_beginX_9 : decode cX2_beginX 9 = .ok (.iaload, 1) := by decide +kernel
theorem dX2_beginX_10 : decode cX2_beginX 10 = .ok (.goto 9, 3) := by decide +kernel
theorem dX2_beginX_13 : decode cX2_beginX 13 = .ok (.aload_n 0, 1) := by decide +kernel
theorem dX2_beginX_14 : decode cX2_beginX 14 = .ok (.getfield 22, 3) := by decide +kernel
theorem dX2_beginX_17 : decode cX2_beginX 17 = .ok (.iload_n 1, 1) := by decide +kernel
theorem dX2_beginX_18 : decode cX2_beginX 18 = .ok (.iaload, 1) := by decide +kernel
theorem dX2_beginX_19 : decode cX2_beginX 19 = .ok (.ireturn, 1) := by decide +kernel
theorem dX2_beginY_0 : decode cX2_beginY 0 = .ok (.iload_n 2, 1) := by decide +kernel
theorem dX2_beginY_1 : decode cX2_beginY 1 = .ok (.ifCond .ne 12, 3) := by decide +kernel
theorem dX2_beginY_4 : decode cX2_beginY 4 = .ok (.aload_n 0, 1) := by decide +kernel
theorem dX2_beginY_5 : decode cX2_beginY 5 = .ok (.getfield 19, 3) := by decide +kernel
theorem dX2_beginY_8 : decode cX2_beginY 8 = .ok (.iload_n 1, 1) := by decide +kernel
theorem dX2_beginY_9 : decode cX2_beginY 9 = .ok (.iaload, 1) := by decide +kernel
theorem dX2_beginY_10 : decode cX2_beginY 10 = .ok (.goto 9, 3) := by decide +kernel
theorem dX2_beginY_13 : decode cX2_beginY 13 = .ok (.aload_n 0, 1) := by decide +kernel
theorem dX2_beginY_14 : decode cX2_beginY 14 = .ok (.getfield 25, 3) := by decide +kernel
theorem dX2_beginY_17 : decode cX2_beginY 17 = .ok (.iload_n 1, 1) := by decide +kernel
theorem dX2_beginY_18 : decode cX2_beginY 18 = .ok (.iaload, 1) := by decide +kernel
theorem dX2_beginY_19 : decode cX2_beginY 19 = .ok (.ireturn, 1) := by decide +kernel
theorem dX2_lengthNotDrawn_0 : decode cX2_lengthNotDrawn 0 = .ok (.iconst 0, 1) := by decide +kernel
theorem dX2_lengthNotDrawn_1 : decode cX2_lengthNotDrawn 1 = .ok (.istore_n 1, 1) := by decide +kernel
theorem dX2_lengthNotDrawn_2 : decode cX2_lengthNotDrawn 2 = .ok (.iconst 0, 1) := by decide +kernel
theorem dX2_lengthNotDrawn_3 : decode cX2_lengthNotDrawn 3 = .ok (.istore_n 2, 1) := by decide +kernel
theorem dX2_lengthNotDrawn_4 : decode cX2_lengthNotDrawn 4 = .ok (.iload_n 2, 1) := by decide +kernel
theorem dX2_lengthNotDrawn_5 : decode cX2_lengthNotDrawn 5 = .ok (.aload_n 0, 1) := by decide +kernel
theorem dX2_lengthNotDrawn_6 : decode cX2_lengthNotDrawn 6 = .ok (.getfield 9, 3) := by decide +kernel
theorem dX2_lengthNotDrawn_9 : decode cX2_lengthNotDrawn 9 = .ok (.if_icmp .ge 30, 3) := by decide +kernel
theorem dX2_lengthNotDrawn_12 : decode cX2_lengthNotDrawn 12 = .ok (.iload_n 1, 1) := by decide +kernel
theorem dX2_lengthNotDrawn_13 : decode cX2_lengthNotDrawn 13 = .ok (.aload_n 0, 1) := by decide +kernel
theorem dX2_lengthNotDrawn_14 : decode cX2_lengthNotDrawn 14 = .ok (.iload_n 2, 1) := by decide +kernel
theorem dX2_lengthNotDrawn_15 : decode cX2_lengthNotDrawn 15 = .ok (.invokevirtual 66, 3) := by decide +kernel
theorem dX2_lengthNotDrawn_18 : decode cX2_lengthNotDrawn 18 = .ok (.ifCond .eq 7, 3) := by decide +kernel
theorem dX2_lengthNotDrawn_21 : decode cX2_lengthNotDrawn 21 = .ok (.iconst 0, 1) := by decide +kernel
theorem dX2_lengthNotDrawn_22 : decode cX2_lengthNotDrawn 22 = .ok (.goto 9, 3) := by decide +kernel
theorem dX2_lengthNotDrawn_25 : decode cX2_lengthNotDrawn 25 = .ok (.aload_n 0, 1) := by decide +kernel
theorem dX2_lengthNotDrawn_26 : decode cX2_lengthNotDrawn 26 = .ok (.getfield 28, 3) := by decide +kernel
theorem dX2_lengthNotDrawn_29 : decode cX2_lengthNotDrawn 29 = .ok (.iload_n 2, 1) := by decide +kernel
theorem dX2_lengthNotDrawn_30 : decode cX2_lengthNotDrawn 30 = .ok (.iaload, 1) := by decide +kernel
theorem dX2_lengthNotDrawn_31 : decode cX2_lengthNotDrawn 31 = .ok (.iadd, 1) := by decide +kernel
theorem dX2_lengthNotDrawn_32 : decode cX2_lengthNotDrawn 32 = .ok (.istore_n 1, 1) := by decide +kernel
theorem dX2_lengthNotDrawn_33 : decode cX2_lengthNotDrawn 33 = .ok (.iinc 2 1, 3) := by decide +kernel
theorem dX2_lengthNotDrawn_36 : decode cX2_lengthNotDrawn 36 = .ok (.goto (-32), 3) := by decide +kernel
theorem dX2_lengthNotDrawn_39 : decode cX2_lengthNotDrawn 39 = .ok (.iload_n 1, 1) := by decide +kernel
theorem dX2_lengthNotDrawn_40 : decode cX2_lengthNotDrawn 40 = .ok (.ireturn, 1) := by decide +kernel
theorem dX2_howManyDrawn_0 : decode cX2_howManyDrawn 0 = .ok (.iconst 0, 1) := by decide +kernel
theorem dX2_howManyDrawn_1 : decode cX2_howManyDrawn 1 = .ok (.istore_n 1, 1) := by decide +kernel
theorem dX2_howManyDrawn_2 : decode cX2_howManyDrawn 2 = .ok (.iconst 0, 1) := by decide +kernel
theorem dX2_howManyDrawn_3 : decode cX2_howManyDrawn 3 = .ok (.istore_n 2, 1) := by decide +kernel
theorem dX2_howManyDrawn_4 : decode cX2_howManyDrawn 4 = .ok (.iload_n 2, 1) := by decide +kernel
theorem dX2_howManyDrawn_5 : decode cX2_howManyDrawn 5 = .ok (.aload_n 0, 1) := by decide +kernel
theorem dX2_howManyDrawn_6 : decode cX2_howManyDrawn 6 = .ok (.getfield 9, 3) := by decide +kernel
theorem dX2_howManyDrawn_9 : decode cX2_howManyDrawn 9 = .ok (.if_icmp .ge 20, 3) := by decide +kernel
theorem dX2_howManyDrawn_12 : decode cX2_howManyDrawn 12 = .ok (.iload_n 1, 1) := by decide +kernel
theorem dX2_howManyDrawn_13 : decode cX2_howManyDrawn 13 = .ok (.aload_n 0, 1) := by decide +kernel
theorem dX2_howManyDrawn_14 : decode cX2_howManyDrawn 14 = .ok (.iload_n 2, 1) := by decide +kernel
theorem dX2_howManyDrawn_15 : decode cX2_howManyDrawn 15 = .ok (.invokevirtual 66, 3) := by decide +kernel
theorem dX2_howManyDrawn_18 : decode cX2_howManyDrawn 18 = .ok (.invokestatic 70, 3) := by decide +kernel
theorem dX2_howManyDrawn_21 : decode cX2_howManyDrawn 21 = .ok (.iadd, 1) := by decide +kernel
theorem dX2_howManyDrawn_22 : decode cX2_howManyDrawn 22 = .ok (.istore_n 1, 1) := by decide +kernel
theorem dX2_howManyDrawn_23 : decode cX2_howManyDrawn 23 = .ok (.iinc 2 1, 3) := by decide +kernel
theorem dX2_howManyDrawn_26 : decode cX2_howManyDrawn 26 = .ok (.goto (-22), 3) := by decide +kernel
theorem dX2_howManyDrawn_29 : decode cX2_howManyDrawn 29 = .ok (.iload_n 1, 1) := by decide +kernel
theorem dX2_howManyDrawn_30 : decode cX2_howManyDrawn 30 = .ok (.ireturn, 1) := by decide +kernel
theorem dX2_howManyDrawnBy_0 : decode cX2_howManyDrawnBy 0 = .ok (.iconst 0, 1) := by decide +kernel
theorem dX2_howManyDrawnBy_1 : decode cX2_howManyDrawnBy 1 = .ok (.istore_n 2, 1) := by decide +kernel
theorem dX2_howManyDrawnBy_2 : decode cX2_howManyDrawnBy 2 = .ok (.iconst 0, 1) := by decide +kernel
theorem dX2_howManyDrawnBy_3 : decode cX2_howManyDrawnBy 3 = .ok (.istore_n 3, 1) := by decide +kernel
theorem dX2_howManyDrawnBy_4 : decode cX2_howManyDrawnBy 4 = .ok (.iload_n 3, 1) := by decide +kernel
theorem dX2_howManyDrawnBy_5 : decode cX2_howManyDrawnBy 5 = .ok (.aload_n 0, 1) := by decide +kernel
theorem dX2_howManyDrawnBy_6 : decode cX2_howManyDrawnBy 6 = .ok (.getfield 9, 3) := by decide +kernel
theorem dX2_howManyDrawnBy_9 : decode cX2_howManyDrawnBy 9 = .ok (.if_icmp .ge 30, 3) := by decide +kernel
theorem dX2_howManyDrawnBy_12 : decode cX2_howManyDrawnBy 12 = .ok (.iload_n 2, 1) := by decide +kernel
theorem dX2_howManyDrawnBy_13 : decode cX2_howManyDrawnBy 13 = .ok (.aload_n 0, 1) := by decide +kernel
theorem dX2_howManyDrawnBy_14 : decode cX2_howManyDrawnBy 14 = .ok (.getfield 34, 3) := by decide +kernel
theorem dX2_howManyDrawnBy_17 : decode cX2_howManyDrawnBy 17 = .ok (.iload_n 3, 1) := by decide +kernel
theorem dX2_howManyDrawnBy_18 : decode cX2_howManyDrawnBy 18 = .ok (.iaload, 1) := by decide +kernel
theorem dX2_howManyDrawnBy_19 : decode cX2_howManyDrawnBy 19 = .ok (.iload_n 1, 1) := by decide +kernel
theorem dX2_howManyDrawnBy_20 : decode cX2_howManyDrawnBy 20 = .ok (.if_icmp .ne 7, 3) := by decide +kernel
theorem dX2_howManyDrawnBy_23 : decode cX2_howManyDrawnBy 23 = .ok (.iconst 1, 1) := by decide +kernel
theorem dX2_howManyDrawnBy_24 : decode cX2_howManyDrawnBy 24 = .ok (.goto 4, 3) := by decide +kernel
theorem dX2_howManyDrawnBy_27 : decode cX2_howManyDrawnBy 27 = .ok (.iconst 0, 1) := by decide +kernel
theorem dX2_howManyDrawnBy_28 : decode cX2_howManyDrawnBy 28 = .ok (.invokestatic 70, 3) := by decide +kernel
theorem dX2_howManyDrawnBy_31 : decode cX2_howManyDrawnBy 31 = .ok (.iadd, 1) := by decide +kernel
theorem dX2_howManyDrawnBy_32 : decode cX2_howManyDrawnBy 32 = .ok (.istore_n 2, 1) := by decide +kernel
theorem dX2_howManyDrawnBy_33 : decode cX2_howManyDrawnBy 33 = .ok (.iinc 3 1, 3) := by decide +kernel
theorem dX2_howManyDrawnBy_36 : decode cX2_howManyDrawnBy 36 = .ok (.goto (-32), 3) := by decide +kernel
theorem dX2_howManyDrawnBy_39 : decode cX2_howManyDrawnBy 39 = .ok (.iload_n 2, 1) := by decide +kernel
theorem dX2_howManyDrawnBy_40 : decode cX2_howManyDrawnBy 40 = .ok (.ireturn, 1) := by decide +kernel
theorem dX2_meet_0 : decode cX2_meet 0 = .ok (.aload_n 0, 1) := by decide +kernel
theorem dX2_meet_1 : decode cX2_meet 1 = .ok (.getfield 15, 3) := by decide +kernel
theorem dX2_meet_4 : decode cX2_meet 4 = .ok (.iload_n 1, 1) := by decide +kernel
theorem dX2_meet_5 : decode cX2_meet 5 = .ok (.iaload, 1) := by decide +kernel
theorem dX2_meet_6 : decode cX2_meet 6 = .ok (.aload_n 0, 1) := by decide +kernel
theorem dX2_meet_7 : decode cX2_meet 7 = .ok (.getfield 22, 3) := by decide +kernel
theorem dX2_meet_10 : decode cX2_meet 10 = .ok (.iload_n 1, 1) := by decide +kernel
theorem dX2_meet_11 : decode cX2_meet 11 = .ok (.iaload, 1) := by decide +kernel
theorem dX2_meet_12 : decode cX2_meet 12 = .ok (.aload_n 0, 1) := by decide +kernel
theorem dX2_meet_13 : decode cX2_meet 13 = .ok (.getfield 15, 3) := by decide +kernel
theorem dX2_meet_16 : decode cX2_meet 16 = .ok (.iload_n 2, 1) := by decide +kernel
theorem dX2_meet_17 : decode cX2_meet 17 = .ok (.iaload, 1) := by decide +kernel
theorem dX2_meet_18 : decode cX2_meet 18 = .ok (.aload_n 0, 1) := by decide +kernel
theorem dX2_meet_19 : decode cX2_meet 19 = .ok (.getfield 22, 3) := by decide +kernel
theorem dX2_meet_22 : decode cX2_meet 22 = .ok (.iload_n 2, 1) := by decide +kernel
theorem dX2_meet_23 : decode cX2_meet 23 = .ok (.iaload, 1) := by decide +kernel
theorem dX2_meet_24 : decode cX2_meet 24 = .ok (.invokestatic 74, 3) := by decide +kernel
theorem dX2_meet_27 : decode cX2_meet 27 = .ok (.ifCond .eq 55, 3) := by decide +kernel
theorem dX2_meet_30 : decode cX2_meet 30 = .ok (.aload_n 0, 1) := by decide +kernel
theorem dX2_meet_31 : decode cX2_meet 31 = .ok (.getfield 19, 3) := by decide +kernel
theorem dX2_meet_34 : decode cX2_meet 34 = .ok (.iload_n 1, 1) := by decide +kernel
theorem dX2_meet_35 : decode cX2_meet 35 = .ok (.iaload, 1) := by decide +kernel
theorem dX2_meet_36 : decode cX2_meet 36 = .ok (.aload_n 0, 1) := by decide +kernel
theorem dX2_meet_37 : decode cX2_meet 37 = .ok (.getfield 25, 3) := by decide +kernel
theorem dX2_meet_40 : decode cX2_meet 40 = .ok (.iload_n 1, 1) := by decide +kernel
theorem dX2_meet_41 : decode cX2_meet 41 = .ok (.iaload, 1) := by decide +kernel
theorem dX2_meet_42 : decode cX2_meet 42 = .ok (.aload_n 0, 1) := by decide +kernel
theorem dX2_meet_43 : decode cX2_meet 43 = .ok (.getfield 19, 3) := by decide +kernel
theorem dX2_meet_46 : decode cX2_meet 46 = .ok (.iload_n 2, 1) := by decide +kernel
theorem dX2_meet_47 : decode cX2_meet 47 = .ok (.iaload, 1) := by decide +kernel
theorem dX2_meet_48 : decode cX2_meet 48 = .ok (.aload_n 0, 1) := by decide +kernel
theorem dX2_meet_49 : decode cX2_meet 49 = .ok (.getfield 25, 3) := by decide +kernel
theorem dX2_meet_52 : decode cX2_meet 52 = .ok (.iload_n 2, 1) := by decide +kernel
theorem dX2_meet_53 : decode cX2_meet 53 = .ok (.iaload, 1) := by decide +kernel
theorem dX2_meet_54 : decode cX2_meet 54 = .ok (.invokestatic 74, 3) := by decide +kernel
theorem dX2_meet_57 : decode cX2_meet 57 = .ok (.ifCond .eq 25, 3) := by decide +kernel
theorem dX2_meet_60 : decode cX2_meet 60 = .ok (.aload_n 0, 1) := by decide +kernel
theorem dX2_meet_61 : decode cX2_meet 61 = .ok (.iload_n 1, 1) := by decide +kernel
theorem dX2_meet_62 : decode cX2_meet 62 = .ok (.iload_n 2, 1) := by decide +kernel
theorem dX2_meet_63 : decode cX2_meet 63 = .ok (.invokevirtual 78, 3) := by decide +kernel
theorem dX2_meet_66 : decode cX2_meet 66 = .ok (.ifCond .eq 16, 3) := by decide +kernel
theorem dX2_meet_69 : decode cX2_meet 69 = .ok (.aload_n 0, 1) := by decide +kernel
theorem dX2_meet_70 : decode cX2_meet 70 = .ok (.iload_n 2, 1) := by decide +kernel
theorem dX2_meet_71 : decode cX2_meet 71 = .ok (.iload_n 1, 1) := by decide +kernel
theorem dX2_meet_72 : decode cX2_meet 72 = .ok (.invokevirtual 78, 3) := by decide +kernel
theorem dX2_meet_75 : decode cX2_meet 75 = .ok (.ifCond .eq 7, 3) := by decide +kernel
theorem dX2_meet_78 : decode cX2_meet 78 = .ok (.iconst 1, 1) := by decide +kernel
theorem dX2_meet_79 : decode cX2_meet 79 = .ok (.goto 4, 3) := by decide +kernel
theorem dX2_meet_82 : decode cX2_meet 82 = .ok (.iconst 0, 1) := by decide +kernel
theorem dX2_meet_83 : decode cX2_meet 83 = .ok (.ireturn, 1) := by decide +kernel
theorem dX2_spansMeet_0 : decode cX2_spansMeet 0 = .ok (.iload_n 0, 1) := by decide +kernel
theorem dX2_spansMeet_1 : decode cX2_spansMeet 1 = .ok (.iload_n 1, 1) := by decide +kernel
theorem dX2_spansMeet_2 : decode cX2_spansMeet 2 = .ok (.invokestatic 81, 3) := by decide +kernel
theorem dX2_spansMeet_5 : decode cX2_spansMeet 5 = .ok (.iload_n 2, 1) := by decide +kernel
theorem dX2_spansMeet_6 : decode cX2_spansMeet 6 = .ok (.iload_n 3, 1) := by decide +kernel
theorem dX2_spansMeet_7 : decode cX2_spansMeet 7 = .ok (.invokestatic 81, 3) := by decide +kernel
theorem dX2_spansMeet_10 : decode cX2_spansMeet 10 = .ok (.invokestatic 87, 3) := by decide +kernel
theorem dX2_spansMeet_13 : decode cX2_spansMeet 13 = .ok (.iload_n 0, 1) := by decide +kernel
theorem dX2_spansMeet_14 : decode cX2_spansMeet 14 = .ok (.iload_n 1, 1) := by decide +kernel
theorem dX2_spansMeet_15 : decode cX2_spansMeet 15 = .ok (.invokestatic 87, 3) := by decide +kernel
theorem dX2_spansMeet_18 : decode cX2_spansMeet 18 = .ok (.iload_n 2, 1) := by decide +kernel
theorem dX2_spansMeet_19 : decode cX2_spansMeet 19 = .ok (.iload_n 3, 1) := by decide +kernel
theorem dX2_spansMeet_20 : decode cX2_spansMeet 20 = .ok (.invokestatic 87, 3) := by decide +kernel
theorem dX2_spansMeet_23 : decode cX2_spansMeet 23 = .ok (.invokestatic 81, 3) := by decide +kernel
theorem dX2_spansMeet_26 : decode cX2_spansMeet 26 = .ok (.if_icmp .gt 7, 3) := by decide +kernel
theorem dX2_spansMeet_29 : decode cX2_spansMeet 29 = .ok (.iconst 1, 1) := by decide +kernel
theorem dX2_spansMeet_30 : decode cX2_spansMeet 30 = .ok (.goto 4, 3) := by decide +kernel
theorem dX2_spansMeet_33 : decode cX2_spansMeet 33 = .ok (.iconst 0, 1) := by decide +kernel
theorem dX2_spansMeet_34 : decode cX2_spansMeet 34 = .ok (.ireturn, 1) := by decide +kernel
theorem dX2_reachesAcross_0 : decode cX2_reachesAcross 0 = .ok (.aload_n 0, 1) := by decide +kernel
theorem dX2_reachesAcross_1 : decode cX2_reachesAcross 1 = .ok (.getfield 22, 3) := by decide +kernel
theorem dX2_reachesAcross_4 : decode cX2_reachesAcross 4 = .ok (.iload_n 2, 1) := by decide +kernel
theorem dX2_reachesAcross_5 : decode cX2_reachesAcross 5 = .ok (.iaload, 1) := by decide +kernel
theorem dX2_reachesAcross_6 : decode cX2_reachesAcross 6 = .ok (.aload_n 0, 1) := by decide +kernel
theorem dX2_reachesAcross_7 : decode cX2_reachesAcross 7 = .ok (.getfield 15, 3) := by decide +kernel
theorem dX2_reachesAcross_10 : decode cX2_reachesAcross 10 = .ok (.iload_n 2, 1) := by decide +kernel
theorem dX2_reachesAcross_11 : decode cX2_reachesAcross 11 = .ok (.iaload, 1) := by decide +kernel
theorem dX2_reachesAcross_12 : decode cX2_reachesAcross 12 = .ok (.isub, 1) := by decide +kernel
theorem dX2_reachesAcross_13 : decode cX2_reachesAcross 13 = .ok (.istore_n 3, 1) := by decide +kernel
theorem dX2_reachesAcross_14 : decode cX2_reachesAcross 14 = .ok (.aload_n 0, 1) := by decide +kernel
theorem dX2_reachesAcross_15 : decode cX2_reachesAcross 15 = .ok (.getfield 25, 3) := by decide +kernel
theorem dX2_reachesAcross_18 : decode cX2_reachesAcross 18 = .ok (.iload_n 2, 1) := by decide +kernel
theorem dX2_reachesAcross_19 : decode cX2_reachesAcross 19 = .ok (.iaload, 1) := by decide +kernel
theorem dX2_reachesAcross_20 : decode cX2_reachesAcross 20 = .ok (.aload_n 0, 1) := by decide +kernel
theorem dX2_reachesAcross_21 : decode cX2_reachesAcross 21 = .ok (.getfield 19, 3) := by decide +kernel
theorem dX2_reachesAcross_24 : decode cX2_reachesAcross 24 = .ok (.iload_n 2, 1) := by decide +kernel
theorem dX2_reachesAcross_25 : decode cX2_reachesAcross 25 = .ok (.iaload, 1) := by decide +kernel
theorem dX2_reachesAcross_26 : decode cX2_reachesAcross 26 = .ok (.isub, 1) := by decide +kernel
theorem dX2_reachesAcross_27 : decode cX2_reachesAcross 27 = .ok (.istore 4, 2) := by decide +kernel
theorem dX2_reachesAcross_29 : decode cX2_reachesAcross 29 = .ok (.iload_n 3, 1) := by decide +kernel
theorem dX2_reachesAcross_30 : decode cX2_reachesAcross 30 = .ok (.aload_n 0, 1) := by decide +kernel
theorem dX2_reachesAcross_31 : decode cX2_reachesAcross 31 = .ok (.getfield 19, 3) := by decide +kernel
theorem dX2_reachesAcross_34 : decode cX2_reachesAcross 34 = .ok (.iload_n 1, 1) := by decide +kernel
theorem dX2_reachesAcross_35 : decode cX2_reachesAcross 35 = .ok (.iaload, 1) := by decide +kernel
theorem dX2_reachesAcross_36 : decode cX2_reachesAcross 36 = .ok (.aload_n 0, 1) := by decide +kernel
theorem dX2_reachesAcross_37 : decode cX2_reachesAcross 37 = .ok (.getfield 19, 3) := by decide +kernel
theorem dX2_reachesAcross_40 : decode cX2_reachesAcross 40 = .ok (.iload_n 2, 1) := by decide +kernel
theorem dX2_reachesAcross_41 : decode cX2_reachesAcross 41 = .ok (.iaload, 1) := by decide +kernel
theorem dX2_reachesAcross_42 : decode cX2_reachesAcross 42 = .ok (.isub, 1) := by decide +kernel
theorem dX2_reachesAcross_43 : decode cX2_reachesAcross 43 = .ok (.imul, 1) := by decide +kernel
theorem dX2_reachesAcross_44 : decode cX2_reachesAcross 44 = .ok (.iload 4, 2) := by decide +kernel
theorem dX2_reachesAcross_46 : decode cX2_reachesAcross 46 = .ok (.aload_n 0, 1) := by decide +kernel
theorem dX2_reachesAcross_47 : decode cX2_reachesAcross 47 = .ok (.getfield 15, 3) := by decide +kernel
theorem dX2_reachesAcross_50 : decode cX2_reachesAcross 50 = .ok (.iload_n 1, 1) := by decide +kernel
theorem dX2_reachesAcross_51 : decode cX2_reachesAcross 51 = .ok (.iaload, 1) := by decide +kernel
theorem dX2_reachesAcross_52 : decode cX2_reachesAcross 52 = .ok (.aload_n 0, 1) := by decide +kernel
theorem dX2_reachesAcross_53 : decode cX2_reachesAcross 53 = .ok (.getfield 15, 3) := by decide +kernel
theorem dX2_reachesAcross_56 : decode cX2_reachesAcross 56 = .ok (.iload_n 2, 1) := by decide +kernel
theorem dX2_reachesAcross_57 : decode cX2_reachesAcross 57 = .ok (.iaload, 1) := by decide +kernel
theorem dX2_reachesAcross_58 : decode cX2_reachesAcross 58 = .ok (.isub, 1) := by decide +kernel
theorem dX2_reachesAcross_59 : decode cX2_reachesAcross 59 = .ok (.imul, 1) := by decide +kernel
theorem dX2_reachesAcross_60 : decode cX2_reachesAcross 60 = .ok (.isub, 1) := by decide +kernel
theorem dX2_reachesAcross_61 : decode cX2_reachesAcross 61 = .ok (.istore 5, 2) := by decide +kernel
theorem dX2_reachesAcross_63 : decode cX2_reachesAcross 63 = .ok (.iload_n 3, 1) := by decide +kernel
theorem dX2_reachesAcross_64 : decode cX2_reachesAcross 64 = .ok (.aload_n 0, 1) := by decide +kernel
theorem dX2_reachesAcross_65 : decode cX2_reachesAcross 65 = .ok (.getfield 25, 3) := by decide +kernel
theorem dX2_reachesAcross_68 : decode cX2_reachesAcross 68 = .ok (.iload_n 1, 1) := by decide +kernel
theorem dX2_reachesAcross_69 : decode cX2_reachesAcross 69 = .ok (.iaload, 1) := by decide +kernel
theorem dX2_reachesAcross_70 : decode cX2_reachesAcross 70 = .ok (.aload_n 0, 1) := by decide +kernel
theorem dX2_reachesAcross_71 : decode cX2_reachesAcross 71 = .ok (.getfield 19, 3) := by decide +kernel
theorem dX2_reachesAcross_74 : decode cX2_reachesAcross 74 = .ok (.iload_n 2, 1) := by decide +kernel
theorem dX2_reachesAcross_75 : decode cX2_reachesAcross 75 = .ok (.iaload, 1) := by decide +kernel
theorem dX2_reachesAcross_76 : decode cX2_reachesAcross 76 = .ok (.isub, 1) := by decide +kernel
theorem dX2_reachesAcross_77 : decode cX2_reachesAcross 77 = .ok (.imul, 1) := by decide +kernel
theorem dX2_reachesAcross_78 : decode cX2_reachesAcross 78 = .ok (.iload 4, 2) := by decide +kernel
theorem dX2_reachesAcross_80 : decode cX2_reachesAcross 80 = .ok (.aload_n 0, 1) := by decide +kernel
theorem dX2_reachesAcross_81 : decode cX2_reachesAcross 81 = .ok (.getfield 22, 3) := by decide +kernel
theorem dX2_reachesAcross_84 : decode cX2_reachesAcross 84 = .ok (.iload_n 1, 1) := by decide +kernel
theorem dX2_reachesAcross_85 : decode cX2_reachesAcross 85 = .ok (.iaload, 1) := by decide +kernel
theorem dX2_reachesAcross_86 : decode cX2_reachesAcross 86 = .ok (.aload_n 0, 1) := by decide +kernel
theorem dX2_reachesAcross_87 : decode cX2_reachesAcross 87 = .ok (.getfield 15, 3) := by decide +kernel
theorem dX2_reachesAcross_90 : decode cX2_reachesAcross 90 = .ok (.iload_n 2, 1) := by decide +kernel
theorem dX2_reachesAcross_91 : decode cX2_reachesAcross 91 = .ok (.iaload, 1) := by decide +kernel
theorem dX2_reachesAcross_92 : decode cX2_reachesAcross 92 = .ok (.isub, 1) := by decide +kernel
theorem dX2_reachesAcross_93 : decode cX2_reachesAcross 93 = .ok (.imul, 1) := by decide +kernel
theorem dX2_reachesAcross_94 : decode cX2_reachesAcross 94 = .ok (.isub, 1) := by decide +kernel
theorem dX2_reachesAcross_95 : decode cX2_reachesAcross 95 = .ok (.istore 6, 2) := by decide +kernel
theorem dX2_reachesAcross_97 : decode cX2_reachesAcross 97 = .ok (.iload 5, 2) := by decide +kernel
theorem dX2_reachesAcross_99 : decode cX2_reachesAcross 99 = .ok (.iload 6, 2) := by decide +kernel
theorem dX2_reachesAcross_101 : decode cX2_reachesAcross 101 = .ok (.imul, 1) := by decide +kernel
theorem dX2_reachesAcross_102 : decode cX2_reachesAcross 102 = .ok (.ifCond .gt 7, 3) := by decide +kernel
theorem dX2_reachesAcross_105 : decode cX2_reachesAcross 105 = .ok (.iconst 1, 1) := by decide +kernel
theorem dX2_reachesAcross_106 : decode cX2_reachesAcross 106 = .ok (.goto 4, 3) := by decide +kernel
theorem dX2_reachesAcross_109 : decode cX2_reachesAcross 109 = .ok (.iconst 0, 1) := by decide +kernel
theorem dX2_reachesAcross_110 : decode cX2_reachesAcross 110 = .ok (.ireturn, 1) := by decide +kernel
theorem dX2_isDrawnWithEnd_0 : decode cX2_isDrawnWithEnd 0 = .ok (.aload_n 0, 1) := by decide +kernel
theorem dX2_isDrawnWithEnd_1 : decode cX2_isDrawnWithEnd 1 = .ok (.iload_n 1, 1) := by decide +kernel
theorem dX2_isDrawnWithEnd_2 : decode cX2_isDrawnWithEnd 2 = .ok (.invokevirtual 66, 3) := by decide +kernel
theorem dX2_isDrawnWithEnd_5 : decode cX2_isDrawnWithEnd 5 = .ok (.ifCond .eq 47, 3) := by decide +kernel
theorem dX2_isDrawnWithEnd_8 : decode cX2_isDrawnWithEnd 8 = .ok (.aload_n 0, 1) := by decide +kernel
theorem dX2_isDrawnWithEnd_9 : decode cX2_isDrawnWithEnd 9 = .ok (.getfield 15, 3) := by decide +kernel
theorem dX2_isDrawnWithEnd_12 : decode cX2_isDrawnWithEnd 12 = .ok (.iload_n 1, 1) := by decide +kernel
theorem dX2_isDrawnWithEnd_13 : decode cX2_isDrawnWithEnd 13 = .ok (.iaload, 1) := by decide +kernel
theorem dX2_isDrawnWithEnd_14 : decode cX2_isDrawnWithEnd 14 = .ok (.iload_n 2, 1) := by decide +kernel
theorem dX2_isDrawnWithEnd_15 : decode cX2_isDrawnWithEnd 15 = .ok (.if_icmp .ne 13, 3) := by decide +kernel
theorem dX2_isDrawnWithEnd_18 : decode cX2_isDrawnWithEnd 18 = .ok (.aload_n 0, 1) := by decide +kernel
theorem dX2_isDrawnWithEnd_19 : decode cX2_isDrawnWithEnd 19 = .ok (.getfield 19, 3) := by decide +kernel
theorem dX2_isDrawnWithEnd_22 : decode cX2_isDrawnWithEnd 22 = .ok (.iload_n 1, 1) := by decide +kernel
theorem dX2_isDrawnWithEnd_23 : decode cX2_isDrawnWithEnd 23 = .ok (.iaload, 1) := by decide +kernel
theorem dX2_isDrawnWithEnd_24 : decode cX2_isDrawnWithEnd 24 = .ok (.iload_n 3, 1) := by decide +kernel
theorem dX2_isDrawnWithEnd_25 : decode cX2_isDrawnWithEnd 25 = .ok (.if_icmp .eq 23, 3) := by decide +kernel
theorem dX2_isDrawnWithEnd_28 : decode cX2_isDrawnWithEnd 28 = .ok (.aload_n 0, 1) := by decide +kernel
theorem dX2_isDrawnWithEnd_29 : decode cX2_isDrawnWithEnd 29 = .ok (.getfield 22, 3) := by decide +kernel
theorem dX2_isDrawnWithEnd_32 : decode cX2_isDrawnWithEnd 32 = .ok (.iload_n 1, 1) := by decide +kernel
theorem dX2_isDrawnWithEnd_33 : decode cX2_isDrawnWithEnd 33 = .ok (.iaload, 1) := by decide +kernel
theorem dX2_isDrawnWithEnd_34 : decode cX2_isDrawnWithEnd 34 = .ok (.iload_n 2, 1) := by decide +kernel
theorem dX2_isDrawnWithEnd_35 : decode cX2_isDrawnWithEnd 35 = .ok (.if_icmp .ne 17, 3) := by decide +kernel
theorem dX2_isDrawnWithEnd_38 : decode cX2_isDrawnWithEnd 38 = .ok (.aload_n 0, 1) := by decide +kernel
theorem dX2_isDrawnWithEnd_39 : decode cX2_isDrawnWithEnd 39 = .ok (.getfield 25, 3) := by decide +kernel
theorem dX2_isDrawnWithEnd_42 : decode cX2_isDrawnWithEnd 42 = .ok (.iload_n 1, 1) := by decide +kernel
theorem dX2_isDrawnWithEnd_43 : decode cX2_isDrawnWithEnd 43 = .ok (.iaload, 1) := by decide +kernel
theorem dX2_isDrawnWithEnd_44 : decode cX2_isDrawnWithEnd 44 = .ok (.iload_n 3, 1) := by decide +kernel
theorem dX2_isDrawnWithEnd_45 : decode cX2_isDrawnWithEnd 45 = .ok (.if_icmp .ne 7, 3) := by decide +kernel
theorem dX2_isDrawnWithEnd_48 : decode cX2_isDrawnWithEnd 48 = .ok (.iconst 1, 1) := by decide +kernel
theorem dX2_isDrawnWithEnd_49 : decode cX2_isDrawnWithEnd 49 = .ok (.goto 4, 3) := by decide +kernel
theorem dX2_isDrawnWithEnd_52 : decode cX2_isDrawnWithEnd 52 = .ok (.iconst 0, 1) := by decide +kernel
theorem dX2_isDrawnWithEnd_53 : decode cX2_isDrawnWithEnd 53 = .ok (.ireturn, 1) := by decide +kernel
theorem dX2_firstDrawnWithEnd_0 : decode cX2_firstDrawnWithEnd 0 = .ok (.iconst 0, 1) := by decide +kernel
theorem dX2_firstDrawnWithEnd_1 : decode cX2_firstDrawnWithEnd 1 = .ok (.istore_n 3, 1) := by decide +kernel
theorem dX2_firstDrawnWithEnd_2 : decode cX2_firstDrawnWithEnd 2 = .ok (.iload_n 3, 1) := by decide +kernel
theorem dX2_firstDrawnWithEnd_3 : decode cX2_firstDrawnWithEnd 3 = .ok (.aload_n 0, 1) := by decide +kernel
theorem dX2_firstDrawnWithEnd_4 : decode cX2_firstDrawnWithEnd 4 = .ok (.getfield 9, 3) := by decide +kernel
theorem dX2_firstDrawnWithEnd_7 : decode cX2_firstDrawnWithEnd 7 = .ok (.if_icmp .ge 21, 3) := by decide +kernel
theorem dX2_firstDrawnWithEnd_10 : decode cX2_firstDrawnWithEnd 10 = .ok (.aload_n 0, 1) := by decide +kernel
theorem dX2_firstDrawnWithEnd_11 : decode cX2_firstDrawnWithEnd 11 = .ok (.iload_n 3, 1) := by decide +kernel
theorem dX2_firstDrawnWithEnd_12 : decode cX2_firstDrawnWithEnd 12 = .ok (.iload_n 1, 1) := by decide +kernel
theorem dX2_firstDrawnWithEnd_13 : decode cX2_firstDrawnWithEnd 13 = .ok (.iload_n 2, 1) := by decide +kernel
theorem dX2_firstDrawnWithEnd_14 : decode cX2_firstDrawnWithEnd 14 = .ok (.invokevirtual 90, 3) := by decide +kernel
theorem dX2_firstDrawnWithEnd_17 : decode cX2_firstDrawnWithEnd 17 = .ok (.ifCond .eq 5, 3) := by decide +kernel
theorem dX2_firstDrawnWithEnd_20 : decode cX2_firstDrawnWithEnd 20 = .ok (.iload_n 3, 1) := by decide +kernel
theorem dX2_firstDrawnWithEnd_21 : decode cX2_firstDrawnWithEnd 21 = .ok (.ireturn, 1) := by decide +kernel
theorem dX2_firstDrawnWithEnd_22 : decode cX2_firstDrawnWithEnd 22 = .ok (.iinc 3 1, 3) := by decide +kernel
theorem dX2_firstDrawnWithEnd_25 : decode cX2_firstDrawnWithEnd 25 = .ok (.goto (-23), 3) := by decide +kernel
theorem dX2_firstDrawnWithEnd_28 : decode cX2_firstDrawnWithEnd 28 = .ok (.iconst (-1), 1) := by decide +kernel
theorem dX2_firstDrawnWithEnd_29 : decode cX2_firstDrawnWithEnd 29 = .ok (.ireturn, 1) := by decide +kernel
theorem dX2_endsThereByAnother_0 : decode cX2_endsThereByAnother 0 = .ok (.iconst 0, 1) := by decide +kernel
theorem dX2_endsThereByAnother_1 : decode cX2_endsThereByAnother 1 = .ok (.istore 4, 2) := by decide +kernel
theorem dX2_endsThereByAnother_3 : decode cX2_endsThereByAnother 3 = .ok (.iload 4, 2) := by decide +kernel
theorem dX2_endsThereByAnother_5 : decode cX2_endsThereByAnother 5 = .ok (.aload_n 0, 1) := by decide +kernel
theorem dX2_endsThereByAnother_6 : decode cX2_endsThereByAnother 6 = .ok (.getfield 9, 3) := by decide +kernel
theorem dX2_endsThereByAnother_9 : decode cX2_endsThereByAnother 9 = .ok (.if_icmp .ge 33, 3) := by decide +kernel
theorem dX2_endsThereByAnother_12 : decode cX2_endsThereByAnother 12 = .ok (.aload_n 0, 1) := by decide +kernel
theorem dX2_endsThereByAnother_13 : decode cX2_endsThereByAnother 13 = .ok (.iload 4, 2) := by decide +kernel
theorem dX2_endsThereByAnother_15 : decode cX2_endsThereByAnother 15 = .ok (.iload_n 1, 1) := by decide +kernel
theorem dX2_endsThereByAnother_16 : decode cX2_endsThereByAnother 16 = .ok (.iload_n 2, 1) := by decide +kernel
theorem dX2_endsThereByAnother_17 : decode cX2_endsThereByAnother 17 = .ok (.invokevirtual 90, 3) := by decide +kernel
theorem dX2_endsThereByAnother_20 : decode cX2_endsThereByAnother 20 = .ok (.ifCond .eq 16, 3) := by decide +kernel
theorem dX2_endsThereByAnother_23 : decode cX2_endsThereByAnother 23 = .ok (.aload_n 0, 1) := by decide +kernel
theorem dX2_endsThereByAnother_24 : decode cX2_endsThereByAnother 24 = .ok (.getfield 34, 3) := by decide +kernel
theorem dX2_endsThereByAnother_27 : decode cX2_endsThereByAnother 27 = .ok (.iload 4, 2) := by decide +kernel
theorem dX2_endsThereByAnother_29 : decode cX2_endsThereByAnother 29 = .ok (.iaload, 1) := by decide +kernel
theorem dX2_endsThereByAnother_30 : decode cX2_endsThereByAnother 30 = .ok (.iload_n 3, 1) := by decide +kernel
theorem dX2_endsThereByAnother_31 : decode cX2_endsThereByAnother 31 = .ok (.if_icmp .eq 5, 3) := by decide +kernel
theorem dX2_endsThereByAnother_34 : decode cX2_endsThereByAnother 34 = .ok (.iconst 1, 1) := by decide +kernel
theorem dX2_endsThereByAnother_35 : decode cX2_endsThereByAnother 35 = .ok (.ireturn, 1) := by decide +kernel
theorem dX2_endsThereByAnother_36 : decode cX2_endsThereByAnother 36 = .ok (.iinc 4 1, 3) := by decide +kernel
theorem dX2_endsThereByAnother_39 : decode cX2_endsThereByAnother 39 = .ok (.goto (-36), 3) := by decide +kernel
theorem dX2_endsThereByAnother_42 : decode cX2_endsThereByAnother 42 = .ok (.iconst 0, 1) := by decide +kernel
theorem dX2_endsThereByAnother_43 : decode cX2_endsThereByAnother 43 = .ok (.ireturn, 1) := by decide +kernel
theorem dX2_isSeam_0 : decode cX2_isSeam 0 = .ok (.aload_n 0, 1) := by decide +kernel
theorem dX2_isSeam_1 : decode cX2_isSeam 1 = .ok (.iload_n 1, 1) := by decide +kernel
theorem dX2_isSeam_2 : decode cX2_isSeam 2 = .ok (.iload_n 2, 1) := by decide +kernel
theorem dX2_isSeam_3 : decode cX2_isSeam 3 = .ok (.invokevirtual 93, 3) := by decide +kernel
theorem dX2_isSeam_6 : decode cX2_isSeam 6 = .ok (.istore_n 3, 1) := by decide +kernel
theorem dX2_isSeam_7 : decode cX2_isSeam 7 = .ok (.iload_n 3, 1) := by decide +kernel
theorem dX2_isSeam_8 : decode cX2_isSeam 8 = .ok (.iconst (-1), 1) := by decide +kernel
theorem dX2_isSeam_9 : decode cX2_isSeam 9 = .ok (.if_icmp .eq 22, 3) := by decide +kernel
theorem dX2_isSeam_12 : decode cX2_isSeam 12 = .ok (.aload_n 0, 1) := by decide +kernel
theorem dX2_isSeam_13 : decode cX2_isSeam 13 = .ok (.iload_n 1, 1) := by decide +kernel
theorem dX2_isSeam_14 : decode cX2_isSeam 14 = .ok (.iload_n 2, 1) := by decide +kernel
theorem dX2_isSeam_15 : decode cX2_isSeam 15 = .ok (.aload_n 0, 1) := by decide +kernel
theorem dX2_isSeam_16 : decode cX2_isSeam 16 = .ok (.getfield 34, 3) := by decide +kernel
theorem dX2_isSeam_19 : decode cX2_isSeam 19 = .ok (.iload_n 3, 1) := by decide +kernel
theorem dX2_isSeam_20 : decode cX2_isSeam 20 = .ok (.iaload, 1) := by decide +kernel
theorem dX2_isSeam_21 : decode cX2_isSeam 21 = .ok (.invokevirtual 96, 3) := by decide +kernel
theorem dX2_isSeam_24 : decode cX2_isSeam 24 = .ok (.ifCond .eq 7, 3) := by decide +kernel
theorem dX2_isSeam_27 : decode cX2_isSeam 27 = .ok (.iconst 1, 1) := by decide +kernel
theorem dX2_isSeam_28 : decode cX2_isSeam 28 = .ok (.goto 4, 3) := by decide +kernel
theorem dX2_isSeam_31 : decode cX2_isSeam 31 = .ok (.iconst 0, 1) := by decide +kernel
theorem dX2_isSeam_32 : decode cX2_isSeam 32 = .ok (.ireturn, 1) := by decide +kernel
theorem dX2_seamsFirstMetAt_0 : decode cX2_seamsFirstMetAt 0 = .ok (.aload_n 0, 1) := by decide +kernel
theorem dX2_seamsFirstMetAt_1 : decode cX2_seamsFirstMetAt 1 = .ok (.aload_n 0, 1) := by decide +kernel
theorem dX2_seamsFirstMetAt_2 : decode cX2_seamsFirstMetAt 2 = .ok (.getfield 15, 3) := by decide +kernel
theorem dX2_seamsFirstMetAt_5 : decode cX2_seamsFirstMetAt 5 = .ok (.iload_n 1, 1) := by decide +kernel
theorem dX2_seamsFirstMetAt_6 : decode cX2_seamsFirstMetAt 6 = .ok (.iaload, 1) := by decide +kernel
theorem dX2_seamsFirstMetAt_7 : decode cX2_seamsFirstMetAt 7 = .ok (.aload_n 0, 1) := by decide +kernel
theorem dX2_seamsFirstMetAt_8 : decode cX2_seamsFirstMetAt 8 = .ok (.getfield 19, 3) := by decide +kernel
theorem dX2_seamsFirstMetAt_11 : decode cX2_seamsFirstMetAt 11 = .ok (.iload_n 1, 1) := by decide +kernel
theorem dX2_seamsFirstMetAt_12 : decode cX2_seamsFirstMetAt 12 = .ok (.iaload, 1) := by decide +kernel
theorem dX2_seamsFirstMetAt_13 : decode cX2_seamsFirstMetAt 13 = .ok (.invokevirtual 93, 3) := by decide +kernel
theorem dX2_seamsFirstMetAt_16 : decode cX2_seamsFirstMetAt 16 = .ok (.iload_n 1, 1) := by decide +kernel
theorem dX2_seamsFirstMetAt_17 : decode cX2_seamsFirstMetAt 17 = .ok (.if_icmp .ne 26, 3) := by decide +kernel
theorem dX2_seamsFirstMetAt_20 : decode cX2_seamsFirstMetAt 20 = .ok (.aload_n 0, 1) := by decide +kernel
theorem dX2_seamsFirstMetAt_21 : decode cX2_seamsFirstMetAt 21 = .ok (.aload_n 0, 1) := by decide +kernel
theorem dX2_seamsFirstMetAt_22 : decode cX2_seamsFirstMetAt 22 = .ok (.getfield 15, 3) := by decide +kernel
theorem dX2_seamsFirstMetAt_25 : decode cX2_seamsFirstMetAt 25 = .ok (.iload_n 1, 1) := by decide +kernel
theorem dX2_seamsFirstMetAt_26 : decode cX2_seamsFirstMetAt 26 = .ok (.iaload, 1) := by decide +kernel
theorem dX2_seamsFirstMetAt_27 : decode cX2_seamsFirstMetAt 27 = .ok (.aload_n 0, 1) := by decide +kernel
theorem dX2_seamsFirstMetAt_28 : decode cX2_seamsFirstMetAt 28 = .ok (.getfield 19, 3) := by decide +kernel
theorem dX2_seamsFirstMetAt_31 : decode cX2_seamsFirstMetAt 31 = .ok (.iload_n 1, 1) := by decide +kernel
theorem dX2_seamsFirstMetAt_32 : decode cX2_seamsFirstMetAt 32 = .ok (.iaload, 1) := by decide +kernel
theorem dX2_seamsFirstMetAt_33 : decode cX2_seamsFirstMetAt 33 = .ok (.invokevirtual 99, 3) := by decide +kernel
theorem dX2_seamsFirstMetAt_36 : decode cX2_seamsFirstMetAt 36 = .ok (.ifCond .eq 7, 3) := by decide +kernel
theorem dX2_seamsFirstMetAt_39 : decode cX2_seamsFirstMetAt 39 = .ok (.iconst 1, 1) := by decide +kernel
theorem dX2_seamsFirstMetAt_40 : decode cX2_seamsFirstMetAt 40 = .ok (.goto 4, 3) := by decide +kernel
theorem dX2_seamsFirstMetAt_43 : decode cX2_seamsFirstMetAt 43 = .ok (.iconst 0, 1) := by decide +kernel
theorem dX2_seamsFirstMetAt_44 : decode cX2_seamsFirstMetAt 44 = .ok (.invokestatic 70, 3) := by decide +kernel
theorem dX2_seamsFirstMetAt_47 : decode cX2_seamsFirstMetAt 47 = .ok (.aload_n 0, 1) := by decide +kernel
theorem dX2_seamsFirstMetAt_48 : decode cX2_seamsFirstMetAt 48 = .ok (.aload_n 0, 1) := by decide +kernel
theorem dX2_seamsFirstMetAt_49 : decode cX2_seamsFirstMetAt 49 = .ok (.getfield 22, 3) := by decide +kernel
theorem dX2_seamsFirstMetAt_52 : decode cX2_seamsFirstMetAt 52 = .ok (.iload_n 1, 1) := by decide +kernel
theorem dX2_seamsFirstMetAt_53 : decode cX2_seamsFirstMetAt 53 = .ok (.iaload, 1) := by decide +kernel
theorem dX2_seamsFirstMetAt_54 : decode cX2_seamsFirstMetAt 54 = .ok (.aload_n 0, 1) := by decide +kernel
theorem dX2_seamsFirstMetAt_55 : decode cX2_seamsFirstMetAt 55 = .ok (.getfield 25, 3) := by decide +kernel
theorem dX2_seamsFirstMetAt_58 : decode cX2_seamsFirstMetAt 58 = .ok (.iload_n 1, 1) := by decide +kernel
theorem dX2_seamsFirstMetAt_59 : decode cX2_seamsFirstMetAt 59 = .ok (.iaload, 1) := by decide +kernel
theorem dX2_seamsFirstMetAt_60 : decode cX2_seamsFirstMetAt 60 = .ok (.invokevirtual 93, 3) := by decide +kernel
theorem dX2_seamsFirstMetAt_63 : decode cX2_seamsFirstMetAt 63 = .ok (.iload_n 1, 1) := by decide +kernel
theorem dX2_seamsFirstMetAt_64 : decode cX2_seamsFirstMetAt 64 = .ok (.if_icmp .ne 26, 3) := by decide +kernel
theorem dX2_seamsFirstMetAt_67 : decode cX2_seamsFirstMetAt 67 = .ok (.aload_n 0, 1) := by decide +kernel
theorem dX2_seamsFirstMetAt_68 : decode cX2_seamsFirstMetAt 68 = .ok (.aload_n 0, 1) := by decide +kernel
theorem dX2_seamsFirstMetAt_69 : decode cX2_seamsFirstMetAt 69 = .ok (.getfield 22, 3) := by decide +kernel
theorem dX2_seamsFirstMetAt_72 : decode cX2_seamsFirstMetAt 72 = .ok (.iload_n 1, 1) := by decide +kernel
theorem dX2_seamsFirstMetAt_73 : decode cX2_seamsFirstMetAt 73 = .ok (.iaload, 1) := by decide +kernel
theorem dX2_seamsFirstMetAt_74 : decode cX2_seamsFirstMetAt 74 = .ok (.aload_n 0, 1) := by decide +kernel
theorem dX2_seamsFirstMetAt_75 : decode cX2_seamsFirstMetAt 75 = .ok (.getfield 25, 3) := by decide +kernel
theorem dX2_seamsFirstMetAt_78 : decode cX2_seamsFirstMetAt 78 = .ok (.iload_n 1, 1) := by decide +kernel
theorem dX2_seamsFirstMetAt_79 : decode cX2_seamsFirstMetAt 79 = .ok (.iaload, 1) := by decide +kernel
theorem dX2_seamsFirstMetAt_80 : decode cX2_seamsFirstMetAt 80 = .ok (.invokevirtual 99, 3) := by decide +kernel
theorem dX2_seamsFirstMetAt_83 : decode cX2_seamsFirstMetAt 83 = .ok (.ifCond .eq 7, 3) := by decide +kernel
theorem dX2_seamsFirstMetAt_86 : decode cX2_seamsFirstMetAt 86 = .ok (.iconst 1, 1) := by decide +kernel
theorem dX2_seamsFirstMetAt_87 : decode cX2_seamsFirstMetAt 87 = .ok (.goto 4, 3) := by decide +kernel
theorem dX2_seamsFirstMetAt_90 : decode cX2_seamsFirstMetAt 90 = .ok (.iconst 0, 1) := by decide +kernel
theorem dX2_seamsFirstMetAt_91 : decode cX2_seamsFirstMetAt 91 = .ok (.invokestatic 70, 3) := by decide +kernel
theorem dX2_seamsFirstMetAt_94 : decode cX2_seamsFirstMetAt 94 = .ok (.iadd, 1) := by decide +kernel
theorem dX2_seamsFirstMetAt_95 : decode cX2_seamsFirstMetAt 95 = .ok (.ireturn, 1) := by decide +kernel
theorem dX2_wouldBecomeSeam_0 : decode cX2_wouldBecomeSeam 0 = .ok (.aload_n 0, 1) := by decide +kernel
theorem dX2_wouldBecomeSeam_1 : decode cX2_wouldBecomeSeam 1 = .ok (.iload_n 1, 1) := by decide +kernel
theorem dX2_wouldBecomeSeam_2 : decode cX2_wouldBecomeSeam 2 = .ok (.iload_n 2, 1) := by decide +kernel
theorem dX2_wouldBecomeSeam_3 : decode cX2_wouldBecomeSeam 3 = .ok (.invokevirtual 99, 3) := by decide +kernel
theorem dX2_wouldBecomeSeam_6 : decode cX2_wouldBecomeSeam 6 = .ok (.ifCond .ne 17, 3) := by decide +kernel
theorem dX2_wouldBecomeSeam_9 : decode cX2_wouldBecomeSeam 9 = .ok (.aload_n 0, 1) := by decide +kernel
theorem dX2_wouldBecomeSeam_10 : decode cX2_wouldBecomeSeam 10 = .ok (.iload_n 1, 1) := by decide +kernel
theorem dX2_wouldBecomeSeam_11 : decode cX2_wouldBecomeSeam 11 = .ok (.iload_n 2, 1) := by decide +kernel
theorem dX2_wouldBecomeSeam_12 : decode cX2_wouldBecomeSeam 12 = .ok (.iload_n 3, 1) := by decide +kernel
theorem dX2_wouldBecomeSeam_13 : decode cX2_wouldBecomeSeam 13 = .ok (.invokevirtual 96, 3) := by decide +kernel
theorem dX2_wouldBecomeSeam_16 : decode cX2_wouldBecomeSeam 16 = .ok (.ifCond .eq 7, 3) := by decide +kernel
theorem dX2_wouldBecomeSeam_19 : decode cX2_wouldBecomeSeam 19 = .ok (.iconst 1, 1) := by decide +kernel
theorem dX2_wouldBecomeSeam_20 : decode cX2_wouldBecomeSeam 20 = .ok (.goto 4, 3) := by decide +kernel
theorem dX2_wouldBecomeSeam_23 : decode cX2_wouldBecomeSeam 23 = .ok (.iconst 0, 1) := by decide +kernel
theorem dX2_wouldBecomeSeam_24 : decode cX2_wouldBecomeSeam 24 = .ok (.ireturn, 1) := by decide +kernel
theorem dX3_init_0 : decode cX3_init 0 = .ok (.aload_n 0, 1) := by decide +kernel
theorem dX3_init_1 : decode cX3_init 1 = .ok (.invokespecial 3, 3) := by decide +kernel
theorem dX3_init_4 : decode cX3_init 4 = .ok (.aload_n 0, 1) := by decide +kernel
theorem dX3_init_5 : decode cX3_init 5 = .ok (.iconst 0, 1) := by decide +kernel
theorem dX3_init_6 : decode cX3_init 6 = .ok (.putfield 9, 3) := by decide +kernel
theorem dX3_init_9 : decode cX3_init 9 = .ok (.aload_n 0, 1) := by decide +kernel
theorem dX3_init_10 : decode cX3_init 10 = .ok (.bipush 60, 2) := by decide +kernel
theorem dX3_init_12 : decode cX3_init 12 = .ok (.newarray .int, 2) := by decide +kernel
theorem dX3_init_14 : decode cX3_init 14 = .ok (.putfield 15, 3) := by decide +kernel
theorem dX3_init_17 : decode cX3_init 17 = .ok (.aload_n 0, 1) := by decide +kernel
theorem dX3_init_18 : decode cX3_init 18 = .ok (.iconst 0, 1) := by decide +kernel
theorem dX3_init_19 : decode cX3_init 19 = .ok (.putfield 19, 3) := by decide +kernel
theorem dX3_init_22 : decode cX3_init 22 = .ok (.aload_n 0, 1) := by decide +kernel
theorem dX3_init_23 : decode cX3_init 23 = .ok (.iconst 0, 1) := by decide +kernel
theorem dX3_init_24 : decode cX3_init 24 = .ok (.putfield 22, 3) := by decide +kernel
theorem dX3_init_27 : decode cX3_init 27 = .ok (.aload_n 0, 1) := by decide +kernel
theorem dX3_init_28 : decode cX3_init 28 = .ok (.ldc 25, 2) := by decide +kernel
theorem dX3_init_30 : decode cX3_init 30 = .ok (.putfield 26, 3) := by decide +kernel
theorem dX3_init_33 : decode cX3_init 33 = .ok (.return_, 1) := by decide +kernel
theorem dX3_append_0 : decode cX3_append 0 = .ok (.aload_n 0, 1) := by decide +kernel
theorem dX3_append_1 : decode cX3_append 1 = .ok (.getfield 9, 3) := by decide +kernel
theorem dX3_append_4 : decode cX3_append 4 = .ok (.bipush 60, 2) := by decide +kernel
theorem dX3_append_6 : decode cX3_append 6 = .ok (.if_icmp .ge 23, 3) := by decide +kernel
theorem dX3_append_9 : decode cX3_append 9 = .ok (.aload_n 0, 1) := by decide +kernel
theorem dX3_append_10 : decode cX3_append 10 = .ok (.getfield 15, 3) := by decide +kernel
theorem dX3_append_13 : decode cX3_append 13 = .ok (.aload_n 0, 1) := by decide +kernel
theorem dX3_append_14 : decode cX3_append 14 = .ok (.getfield 9, 3) := by decide +kernel
theorem dX3_append_17 : decode cX3_append 17 = .ok (.iload_n 1, 1) := by decide +kernel
theorem dX3_append_18 : decode cX3_append 18 = .ok (.iastore, 1) := by decide +kernel
theorem dX3_append_19 : decode cX3_append 19 = .ok (.aload_n 0, 1) := by decide +kernel
theorem dX3_append_20 : decode cX3_append 20 = .ok (.dup, 1) := by decide +kernel
theorem dX3_append_21 : decode cX3_append 21 = .ok (.getfield 9, 3) := by decide +kernel
theorem dX3_append_24 : decode cX3_append 24 = .ok (.iconst 1, 1) := by decide +kernel
theorem dX3_append_25 : decode cX3_append 25 = .ok (.iadd, 1) := by decide +kernel
theorem dX3_append_26 : decode cX3_append 26 = .ok (.putfield 9, 3) := by decide +kernel
theorem dX3_append_29 : decode cX3_append 29 = .ok (.return_, 1) := by decide +kernel
theorem dX3_doOn_0 : decode cX3_doOn 0 = .ok (.aload_n 0, 1) := by decide +kernel
theorem dX3_doOn_1 : decode cX3_doOn 1 = .ok (.iconst 0, 1) := by decide +kernel
theorem dX3_doOn_2 : decode cX3_doOn 2 = .ok (.putfield 19, 3) := by decide +kernel
theorem dX3_doOn_5 : decode cX3_doOn 5 = .ok (.aload_n 0, 1) := by decide +kernel
theorem dX3_doOn_6 : decode cX3_doOn 6 = .ok (.iconst 0, 1) := by decide +kernel
theorem dX3_doOn_7 : decode cX3_doOn 7 = .ok (.putfield 22, 3) := by decide +kernel
theorem dX3_doOn_10 : decode cX3_doOn 10 = .ok (.aload_n 0, 1) := by decide +kernel
theorem dX3_doOn_11 : decode cX3_doOn 11 = .ok (.ldc 25, 2) := by decide +kernel
theorem dX3_doOn_13 : decode cX3_doOn 13 = .ok (.putfield 26, 3) := by decide +kernel
theorem dX3_doOn_16 : decode cX3_doOn 16 = .ok (.iconst 0, 1) := by decide +kernel
theorem dX3_doOn_17 : decode cX3_doOn 17 = .ok (.istore_n 2, 1) := by decide +kernel
theorem dX3_doOn_18 : decode cX3_doOn 18 = .ok (.iload_n 2, 1) := by decide +kernel
theorem dX3_doOn_19 : decode cX3_doOn 19 = .ok (.bipush 60, 2) := by decide +kernel
theorem dX3_doOn_21 : decode cX3_doOn 21 = .ok (.if_icmp .ge 91, 3) := by decide +kernel
theorem dX3_doOn_24 : decode cX3_doOn 24 = .ok (.aload_n 0, 1) := by decide +kernel
theorem dX3_doOn_25 : decode cX3_doOn 25 = .ok (.getfield 19, 3) := by decide +kernel
theorem dX3_doOn_28 : decode cX3_doOn 28 = .ok (.aload_n 0, 1) := by decide +kernel
theorem dX3_doOn_29 : decode cX3_doOn 29 = .ok (.getfield 9, 3) := by decide +kernel
theorem dX3_doOn_32 : decode cX3_doOn 32 = .ok (.if_icmp .lt 5, 3) := by decide +kernel
theorem dX3_doOn_35 : decode cX3_doOn 35 = .ok (.iload_n 2, 1) := by decide +kernel
theorem dX3_doOn_36 : decode cX3_doOn 36 = .ok (.ireturn, 1) := by decide +kernel
theorem dX3_doOn_37 : decode cX3_doOn 37 = .ok (.aload_n 0, 1) := by decide +kernel
theorem dX3_doOn_38 : decode cX3_doOn 38 = .ok (.invokevirtual 29, 3) := by decide +kernel
theorem dX3_doOn_41 : decode cX3_doOn 41 = .ok (.istore_n 3, 1) := by decide +kernel
theorem dX3_doOn_42 : decode cX3_doOn 42 = .ok (.aload_n 0, 1) := by decide +kernel
theorem dX3_doOn_43 : decode cX3_doOn 43 = .ok (.iload_n 3, 1) := by decide +kernel
theorem dX3_doOn_44 : decode cX3_doOn 44 = .ok (.invokevirtual 33, 3) := by decide +kernel
theorem dX3_doOn_47 : decode cX3_doOn 47 = .ok (.ifCond .ne 15, 3) := by decide +kernel
theorem dX3_doOn_50 : decode cX3_doOn 50 = .ok (.aload_n 0, 1) := by decide +kernel
theorem dX3_doOn_51 : decode cX3_doOn 51 = .ok (.iconst 1, 1) := by decide +kernel
theorem dX3_doOn_52 : decode cX3_doOn 52 = .ok (.putfield 22, 3) := by decide +kernel
theorem dX3_doOn_55 : decode cX3_doOn 55 = .ok (.aload_n 0, 1) := by decide +kernel
theorem dX3_doOn_56 : decode cX3_doOn 56 = .ok (.iload_n 3, 1) := by decide +kernel
theorem dX3_doOn_57 : decode cX3_doOn 57 = .ok (.putfield 26, 3) := by decide +kernel
theorem dX3_doOn_60 : decode cX3_doOn 60 = .ok (.iload_n 2, 1) := by decide +kernel
theorem dX3_doOn_61 : decode cX3_doOn 61 = .ok (.ireturn, 1) := by decide +kernel
theorem dX3_doOn_62 : decode cX3_doOn 62 = .ok (.aload_n 0, 1) := by decide +kernel
theorem dX3_doOn_63 : decode cX3_doOn 63 = .ok (.aload_n 0, 1) := by decide +kernel
theorem dX3_doOn_64 : decode cX3_doOn 64 = .ok (.aload_n 1, 1) := by decide +kernel
theorem dX3_doOn_65 : decode cX3_doOn 65 = .ok (.aload_n 0, 1) := by decide +kernel
theorem dX3_doOn_66 : decode cX3_doOn 66 = .ok (.getfield 15, 3) := by decide +kernel
theorem dX3_doOn_69 : decode cX3_doOn 69 = .ok (.aload_n 0, 1) := by decide +kernel
theorem dX3_doOn_70 : decode cX3_doOn 70 = .ok (.getfield 19, 3) := by decide +kernel
theorem dX3_doOn_73 : decode cX3_doOn 73 = .ok (.iaload, 1) := by decide +kernel
theorem dX3_doOn_74 : decode cX3_doOn 74 = .ok (.aload_n 0, 1) := by decide +kernel
theorem dX3_doOn_75 : decode cX3_doOn 75 = .ok (.iload_n 3, 1) := by decide +kernel
theorem dX3_doOn_76 : decode cX3_doOn 76 = .ok (.invokevirtual 37, 3) := by decide +kernel
theorem dX3_doOn_79 : decode cX3_doOn 79 = .ok (.invokevirtual 41, 3) := by decide +kernel
theorem dX3_doOn_82 : decode cX3_doOn 82 = .ok (.putfield 22, 3) := by decide +kernel
theorem dX3_doOn_85 : decode cX3_doOn 85 = .ok (.aload_n 0, 1) := by decide +kernel
theorem dX3_doOn_86 : decode cX3_doOn 86 = .ok (.getfield 22, 3) := by decide +kernel
theorem dX3_doOn_89 : decode cX3_doOn 89 = .ok (.ifCond .eq 5, 3) := by decide +kernel
theorem dX3_doOn_92 : decode cX3_doOn 92 = .ok (.iload_n 2, 1) := by decide +kernel
theorem dX3_doOn_93 : decode cX3_doOn 93 = .ok (.ireturn, 1) := by decide +kernel
theorem dX3_doOn_94 : decode cX3_doOn 94 = .ok (.aload_n 0, 1) := by decide +kernel
theorem dX3_doOn_95 : decode cX3_doOn 95 = .ok (.dup, 1) := by decide +kernel
theorem dX3_doOn_96 : decode cX3_doOn 96 = .ok (.getfield 19, 3) := by decide +kernel
theorem dX3_doOn_99 : decode cX3_doOn 99 = .ok (.iload_n 3, 1) := by decide +kernel
theorem dX3_doOn_100 : decode cX3_doOn 100 = .ok (.iconst 1, 1) := by decide +kernel
theorem dX3_doOn_101 : decode cX3_doOn 101 = .ok (.iadd, 1) := by decide +kernel
theorem dX3_doOn_102 : decode cX3_doOn 102 = .ok (.iadd, 1) := by decide +kernel
theorem dX3_doOn_103 : decode cX3_doOn 103 = .ok (.putfield 19, 3) := by decide +kernel
theorem dX3_doOn_106 : decode cX3_doOn 106 = .ok (.iinc 2 1, 3) := by decide +kernel
theorem dX3_doOn_109 : decode cX3_doOn 109 = .ok (.goto (-91), 3) := by decide +kernel
theorem dX3_doOn_112 : decode cX3_doOn 112 = .ok (.bipush 60, 2) := by decide +kernel
theorem dX3_doOn_114 : decode cX3_doOn 114 = .ok (.ireturn, 1) := by decide +kernel
theorem dX3_isWithNumber_0 : decode cX3_isWithNumber 0 = .ok (.iload_n 0, 1) := by decide +kernel
theorem dX3_isWithNumber_1 : decode cX3_isWithNumber 1 = .ok (.bipush 112, 2) := by decide +kernel
theorem dX3_isWithNumber_3 : decode cX3_isWithNumber 3 = .ok (.if_icmp .eq 21, 3) := by decide +kernel
theorem dX3_isWithNumber_6 : decode cX3_isWithNumber 6 = .ok (.iload_n 0, 1) := by decide +kernel
theorem dX3_isWithNumber_7 : decode cX3_isWithNumber 7 = .ok (.bipush 100, 2) := by decide +kernel
theorem dX3_isWithNumber_9 : decode cX3_isWithNumber 9 = .ok (.if_icmp .eq 15, 3) := by decide +kernel
theorem dX3_isWithNumber_12 : decode cX3_isWithNumber 12 = .ok (.iload_n 0, 1) := by decide +kernel
theorem dX3_isWithNumber_13 : decode cX3_isWithNumber 13 = .ok (.bipush 114, 2) := by decide +kernel
theorem dX3_isWithNumber_15 : decode cX3_isWithNumber 15 = .ok (.if_icmp .eq 9, 3) := by decide +kernel
theorem dX3_isWithNumber_18 : decode cX3_isWithNumber 18 = .ok (.iload_n 0, 1) := by decide +kernel
theorem dX3_isWithNumber_19 : decode cX3_isWithNumber 19 = .ok (.bipush 119, 2) := by decide +kernel
theorem dX3_isWithNumber_21 : decode cX3_isWithNumber 21 = .ok (.if_icmp .ne 7, 3) := by decide +kernel
theorem dX3_isWithNumber_24 : decode cX3_isWithNumber 24 = .ok (.iconst 1, 1) := by decide +kernel
theorem dX3_isWithNumber_25 : decode cX3_isWithNumber 25 = .ok (.goto 4, 3) := by decide +kernel
theorem dX3_isWithNumber_28 : decode cX3_isWithNumber 28 = .ok (.iconst 0, 1) := by decide +kernel
theorem dX3_isWithNumber_29 : decode cX3_isWithNumber 29 = .ok (.ireturn, 1) := by decide +kernel
theorem dX3_fittingSigns_0 : decode cX3_fittingSigns 0 = .ok (.aload_n 0, 1) := by decide +kernel
theorem dX3_fittingSigns_1 : decode cX3_fittingSigns 1 = .ok (.getfield 15, 3) := by decide +kernel
theorem dX3_fittingSigns_4 : decode cX3_fittingSigns 4 = .ok (.aload_n 0, 1) := by decide +kernel
theorem dX3_fittingSigns_5 : decode cX3_fittingSigns 5 = .ok (.getfield 19, 3) := by decide +kernel
theorem dX3_fittingSigns_8 : decode cX3_fittingSigns 8 = .ok (.iaload, 1) := by decide +kernel
theorem dX3_fittingSigns_9 : decode cX3_fittingSigns 9 = .ok (.istore_n 1, 1) := by decide +kernel
theorem dX3_fittingSigns_10 : decode cX3_fittingSigns 10 = .ok (.iload_n 1, 1) := by decide +kernel
theorem dX3_fittingSigns_11 : decode cX3_fittingSigns 11 = .ok (.bipush 104, 2) := by decide +kernel
theorem dX3_fittingSigns_13 : decode cX3_fittingSigns 13 = .ok (.if_icmp .eq 9, 3) := by decide +kernel
theorem dX3_fittingSigns_16 : decode cX3_fittingSigns 16 = .ok (.iload_n 1, 1) := by decide +kernel
theorem dX3_fittingSigns_17 : decode cX3_fittingSigns 17 = .ok (.bipush 99, 2) := by decide +kernel
theorem dX3_fittingSigns_19 : decode cX3_fittingSigns 19 = .ok (.if_icmp .ne 5, 3) := by decide +kernel
theorem dX3_fittingSigns_22 : decode cX3_fittingSigns 22 = .ok (.iconst 1, 1) := by decide +kernel
theorem dX3_fittingSigns_23 : decode cX3_fittingSigns 23 = .ok (.ireturn, 1) := by decide +kernel
theorem dX3_fittingSigns_24 : decode cX3_fittingSigns 24 = .ok (.iload_n 1, 1) := by decide +kernel
theorem dX3_fittingSigns_25 : decode cX3_fittingSigns 25 = .ok (.invokestatic 45, 3) := by decide +kernel
theorem dX3_fittingSigns_28 : decode cX3_fittingSigns 28 = .ok (.ifCond .ne 5, 3) := by decide +kernel
theorem dX3_fittingSigns_31 : decode cX3_fittingSigns 31 = .ok (.iconst 0, 1) := by decide +kernel
theorem dX3_fittingSigns_32 : decode cX3_fittingSigns 32 = .ok (.ireturn, 1) := by decide +kernel
theorem dX3_fittingSigns_33 : decode cX3_fittingSigns 33 = .ok (.iconst 0, 1) := by decide +kernel
theorem dX3_fittingSigns_34 : decode cX3_fittingSigns 34 = .ok (.istore_n 2, 1) := by decide +kernel
theorem dX3_fittingSigns_35 : decode cX3_fittingSigns 35 = .ok (.iload_n 2, 1) := by decide +kernel
theorem dX3_fittingSigns_36 : decode cX3_fittingSigns 36 = .ok (.iconst 3, 1) := by decide +kernel
theorem dX3_fittingSigns_37 : decode cX3_fittingSigns 37 = .ok (.if_icmp .ge 24, 3) := by decide +kernel
theorem dX3_fittingSigns_40 : decode cX3_fittingSigns 40 = .ok (.aload_n 0, 1) := by decide +kernel
theorem dX3_fittingSigns_41 : decode cX3_fittingSigns 41 = .ok (.aload_n 0, 1) := by decide +kernel
theorem dX3_fittingSigns_42 : decode cX3_fittingSigns 42 = .ok (.getfield 19, 3) := by decide +kernel
theorem dX3_fittingSigns_45 : decode cX3_fittingSigns 45 = .ok (.iconst 1, 1) := by decide +kernel
theorem dX3_fittingSigns_46 : decode cX3_fittingSigns 46 = .ok (.iadd, 1) := by decide +kernel
theorem dX3_fittingSigns_47 : decode cX3_fittingSigns 47 = .ok (.iload_n 2, 1) := by decide +kernel
theorem dX3_fittingSigns_48 : decode cX3_fittingSigns 48 = .ok (.iadd, 1) := by decide +kernel
theorem dX3_fittingSigns_49 : decode cX3_fittingSigns 49 = .ok (.invokevirtual 48, 3) := by decide +kernel
theorem dX3_fittingSigns_52 : decode cX3_fittingSigns 52 = .ok (.ifCond .eq 9, 3) := by decide +kernel
theorem dX3_fittingSigns_55 : decode cX3_fittingSigns 55 = .ok (.iinc 2 1, 3) := by decide +kernel
theorem dX3_fittingSigns_58 : decode cX3_fittingSigns 58 = .ok (.goto (-23), 3) := by decide +kernel
theorem dX3_fittingSigns_61 : decode cX3_fittingSigns 61 = .ok (.iconst 1, 1) := by decide +kernel
theorem dX3_fittingSigns_62 : decode cX3_fittingSigns 62 = .ok (.iload_n 2, 1) := by decide +kernel
theorem dX3_fittingSigns_63 : decode cX3_fittingSigns 63 = .ok (.iadd, 1) := by decide +kernel
theorem dX3_fittingSigns_64 : decode cX3_fittingSigns 64 = .ok (.ireturn, 1) := by decide +kernel
theorem dX3_isDigitAt_0 : decode cX3_isDigitAt 0 = .ok (.iload_n 1, 1) := by decide +kernel
theorem dX3_isDigitAt_1 : decode cX3_isDigitAt 1 = .ok (.aload_n 0, 1) := by decide +kernel
theorem dX3_isDigitAt_2 : decode cX3_isDigitAt 2 = .ok (.getfield 9, 3) := by decide +kernel
theorem dX3_isDigitAt_5 : decode cX3_isDigitAt 5 = .ok (.if_icmp .ge 23, 3) := by decide +kernel
theorem dX3_isDigitAt_8 : decode cX3_isDigitAt 8 = .ok (.aload_n 0, 1) := by decide +kernel
theorem dX3_isDigitAt_9 : decode cX3_isDigitAt 9 = .ok (.getfield 15, 3) := by decide +kernel
theorem dX3_isDigitAt_12 : decode cX3_isDigitAt 12 = .ok (.iload_n 1, 1) := by decide +kernel
theorem dX3_isDigitAt_13 : decode cX3_isDigitAt 13 = .ok (.iaload, 1) := by decide +kernel
theorem dX3_isDigitAt_14 : decode cX3_isDigitAt 14 = .ok (.bipush 48, 2) := by decide +kernel
theorem dX3_isDigitAt_16 : decode cX3_isDigitAt 16 = .ok (.bipush 57, 2) := by decide +kernel
theorem dX3_isDigitAt_18 : decode cX3_isDigitAt 18 = .ok (.invokestatic 51, 3) := by decide +kernel
theorem dX3_isDigitAt_21 : decode cX3_isDigitAt 21 = .ok (.ifCond .eq 7, 3) := by decide +kernel
theorem dX3_isDigitAt_24 : decode cX3_isDigitAt 24 = .ok (.iconst 1, 1) := by decide +kernel
theorem dX3_isDigitAt_25 : decode cX3_isDigitAt 25 = .ok (.goto 4, 3) := by decide +kernel
theorem dX3_isDigitAt_28 : decode cX3_isDigitAt 28 = .ok (.iconst 0, 1) := by decide +kernel
theorem dX3_isDigitAt_29 : decode cX3_isDigitAt 29 = .ok (.ireturn, 1) := by decide +kernel
theorem dX3_isClosedBehind_0 : decode cX3_isClosedBehind 0 = .ok (.aload_n 0, 1) := by decide +kernel
theorem dX3_isClosedBehind_1 : decode cX3_isClosedBehind 1 = .ok (.getfield 15, 3) := by decide +kernel
theorem dX3_isClosedBehind_4 : decode cX3_isClosedBehind 4 = .ok (.aload_n 0, 1) := by decide +kernel
theorem dX3_isClosedBehind_5 : decode cX3_isClosedBehind 5 = .ok (.getfield 19, 3) := by decide +kernel
theorem dX3_isClosedBehind_8 : decode cX3_isClosedBehind 8 = .ok (.iaload, 1) := by decide +kernel
theorem dX3_isClosedBehind_9 : decode cX3_isClosedBehind 9 = .ok (.invokestatic 45, 3) := by decide +kernel
theorem dX3_isClosedBehind_12 : decode cX3_isClosedBehind 12 = .ok (.ifCond .eq 7, 3) := by decide +kernel
theorem dX3_isClosedBehind_15 : decode cX3_isClosedBehind 15 = .ok (.iconst 2, 1) := by decide +kernel
theorem dX3_isClosedBehind_16 : decode cX3_isClosedBehind 16 = .ok (.goto 4, 3) := by decide +kernel
theorem dX3_isClosedBehind_19 : decode cX3_isClosedBehind 19 = .ok (.iconst 1, 1) := by decide +kernel
theorem dX3_isClosedBehind_20 : decode cX3_isClosedBehind 20 = .ok (.istore_n 2, 1) := by decide +kernel
theorem dX3_isClosedBehind_21 : decode cX3_isClosedBehind 21 = .ok (.aload_n 0, 1) := by decide +kernel
theorem dX3_isClosedBehind_22 : decode cX3_isClosedBehind 22 = .ok (.getfield 19, 3) := by decide +kernel
theorem dX3_isClosedBehind_25 : decode cX3_isClosedBehind 25 = .ok (.iload_n 1, 1) := by decide +kernel
theorem dX3_isClosedBehind_26 : decode cX3_isClosedBehind 26 = .ok (.iadd, 1) := by decide +kernel
theorem dX3_isClosedBehind_27 : decode cX3_isClosedBehind 27 = .ok (.istore_n 3, 1) := by decide +kernel
theorem dX3_isClosedBehind_28 : decode cX3_isClosedBehind 28 = .ok (.iload_n 1, 1) := by decide +kernel
theorem dX3_isClosedBehind_29 : decode cX3_isClosedBehind 29 = .ok (.iload_n 2, 1) := by decide +kernel
theorem dX3_isClosedBehind_30 : decode cX3_isClosedBehind 30 = .ok (.if_icmp .lt 26, 3) := by decide +kernel
theorem dX3_isClosedBehind_33 : decode cX3_isClosedBehind 33 = .ok (.iload_n 3, 1) := by decide +kernel
theorem dX3_isClosedBehind_34 : decode cX3_isClosedBehind 34 = .ok (.aload_n 0, 1) := by decide +kernel
theorem dX3_isClosedBehind_35 : decode cX3_isClosedBehind 35 = .ok (.getfield 9, 3) := by decide +kernel
theorem dX3_isClosedBehind_38 : decode cX3_isClosedBehind 38 = .ok (.if_icmp .ge 18, 3) := by decide +kernel
theorem dX3_isClosedBehind_41 : decode cX3_isClosedBehind 41 = .ok (.aload_n 0, 1) := by decide +kernel
theorem dX3_isClosedBehind_42 : decode cX3_isClosedBehind 42 = .ok (.getfield 15, 3) := by decide +kernel
theorem dX3_isClosedBehind_45 : decode cX3_isClosedBehind 45 = .ok (.iload_n 3, 1) := by decide +kernel
theorem dX3_isClosedBehind_46 : decode cX3_isClosedBehind 46 = .ok (.iaload, 1) := by decide +kernel
theorem dX3_isClosedBehind_47 : decode cX3_isClosedBehind 47 = .ok (.bipush 59, 2) := by decide +kernel
theorem dX3_isClosedBehind_49 : decode cX3_isClosedBehind 49 = .ok (.if_icmp .ne 7, 3) := by decide +kernel
theorem dX3_isClosedBehind_52 : decode cX3_isClosedBehind 52 = .ok (.iconst 1, 1) := by decide +kernel
theorem dX3_isClosedBehind_53 : decode cX3_isClosedBehind 53 = .ok (.goto 4, 3) := by decide +kernel
theorem dX3_isClosedBehind_56 : decode cX3_isClosedBehind 56 = .ok (.iconst 0, 1) := by decide +kernel
theorem dX3_isClosedBehind_57 : decode cX3_isClosedBehind 57 = .ok (.ireturn, 1) := by decide +kernel
theorem dX3_numberOf_0 : decode cX3_numberOf 0 = .ok (.iconst 0, 1) := by decide +kernel
theorem dX3_numberOf_1 : decode cX3_numberOf 1 = .ok (.istore_n 2, 1) := by decide +kernel
theorem dX3_numberOf_2 : decode cX3_numberOf 2 = .ok (.aload_n 0, 1) := by decide +kernel
theorem dX3_numberOf_3 : decode cX3_numberOf 3 = .ok (.getfield 19, 3) := by decide +kernel
theorem dX3_numberOf_6 : decode cX3_numberOf 6 = .ok (.iconst 1, 1) := by decide +kernel
theorem dX3_numberOf_7 : decode cX3_numberOf 7 = .ok (.iadd, 1) := by decide +kernel
theorem dX3_numberOf_8 : decode cX3_numberOf 8 = .ok (.istore_n 3, 1) := by decide +kernel
theorem dX3_numberOf_9 : decode cX3_numberOf 9 = .ok (.iload_n 3, 1) := by decide +kernel
theorem dX3_numberOf_10 : decode cX3_numberOf 10 = .ok (.aload_n 0, 1) := by decide +kernel
theorem dX3_numberOf_11 : decode cX3_numberOf 11 = .ok (.getfield 19, 3) := by decide +kernel
theorem dX3_numberOf_14 : decode cX3_numberOf 14 = .ok (.iload_n 1, 1) := by decide +kernel
theorem dX3_numberOf_15 : decode cX3_numberOf 15 = .ok (.iadd, 1) := by decide +kernel
theorem dX3_numberOf_16 : decode cX3_numberOf 16 = .ok (.if_icmp .ge 24, 3) := by decide +kernel
theorem dX3_numberOf_19 : decode cX3_numberOf 19 = .ok (.bipush 10, 2) := by decide +kernel
theorem dX3_numberOf_21 : decode cX3_numberOf 21 = .ok (.iload_n 2, 1) := by decide +kernel
theorem dX3_numberOf_22 : decode cX3_numberOf 22 = .ok (.imul, 1) := by decide +kernel
theorem dX3_numberOf_23 : decode cX3_numberOf 23 = .ok (.aload_n 0, 1) := by decide +kernel
theorem dX3_numberOf_24 : decode cX3_numberOf 24 = .ok (.getfield 15, 3) := by decide +kernel
theorem dX3_numberOf_27 : decode cX3_numberOf 27 = .ok (.iload_n 3, 1) := by decide +kernel
theorem dX3_numberOf_28 : decode cX3_numberOf 28 = .ok (.iaload, 1) := by decide +kernel
theorem dX3_numberOf_29 : decode cX3_numberOf 29 = .ok (.iadd, 1) := by decide +kernel
theorem dX3_numberOf_30 : decode cX3_numberOf 30 = .ok (.bipush 48, 2) := by decide +kernel
theorem dX3_numberOf_32 : decode cX3_numberOf 32 = .ok (.isub, 1) := by decide +kernel
theorem dX3_numberOf_33 : decode cX3_numberOf 33 = .ok (.istore_n 2, 1) := by decide +kernel
theorem dX3_numberOf_34 : decode cX3_numberOf 34 = .ok (.iinc 3 1, 3) := by decide +kernel
theorem dX3_numberOf_37 : decode cX3_numberOf 37 = .ok (.goto (-28), 3) := by decide +kernel
theorem dX3_numberOf_40 : decode cX3_numberOf 40 = .ok (.iload_n 2, 1) := by decide +kernel
theorem dX3_numberOf_41 : decode cX3_numberOf 41 = .ok (.ireturn, 1) := by decide +kernel
theorem dX3_reasonOfDoing_0 : decode cX3_reasonOfDoing 0 = .ok (.iload_n 2, 1) := by decide +kernel
theorem dX3_reasonOfDoing_1 : decode cX3_reasonOfDoing 1 = .ok (.lookupswitch 84 #[(100, 57), (104, 73), (112, 51), (114, 65), (119, 78)], 51) := by decide +kernel
theorem dX3_reasonOfDoing_52 : decode cX3_reasonOfDoing 52 = .ok (.aload_n 1, 1) := by decide +kernel
theorem dX3_reasonOfDoing_53 : decode cX3_reasonOfDoing 53 = .ok (.iload_n 3, 1) := by decide +kernel
theorem dX3_reasonOfDoing_54 : decode cX3_reasonOfDoing 54 = .ok (.invokestatic 55, 3) := by decide +kernel
theorem dX3_reasonOfDoing_57 : decode cX3_reasonOfDoing 57 = .ok (.ireturn, 1) := by decide +kernel
theorem dX3_reasonOfDoing_58 : decode cX3_reasonOfDoing 58 = .ok (.aload_n 0, 1) := by decide +kernel
theorem dX3_reasonOfDoing_59 : decode cX3_reasonOfDoing 59 = .ok (.aload_n 1, 1) := by decide +kernel
theorem dX3_reasonOfDoing_60 : decode cX3_reasonOfDoing 60 = .ok (.iload_n 3, 1) := by decide +kernel
theorem dX3_reasonOfDoing_61 : decode cX3_reasonOfDoing 61 = .ok (.iconst 0, 1) := by decide +kernel
theorem dX3_reasonOfDoing_62 : decode cX3_reasonOfDoing 62 = .ok (.invokevirtual 59, 3) := by decide +kernel
theorem dX3_reasonOfDoing_65 : decode cX3_reasonOfDoing 65 = .ok (.ireturn, 1) := by decide +kernel
theorem dX3_reasonOfDoing_66 : decode cX3_reasonOfDoing 66 = .ok (.aload_n 0, 1) := by decide +kernel
theorem dX3_reasonOfDoing_67 : decode cX3_reasonOfDoing 67 = .ok (.aload_n 1, 1) := by decide +kernel
theorem dX3_reasonOfDoing_68 : decode cX3_reasonOfDoing 68 = .ok (.iload_n 3, 1) := by decide +kernel
theorem dX3_reasonOfDoing_69 : decode cX3_reasonOfDoing 69 = .ok (.iconst 1, 1) := by decide +kernel
theorem dX3_reasonOfDoing_70 : decode cX3_reasonOfDoing 70 = .ok (.invokevirtual 59, 3) := by decide +kernel
theorem dX3_reasonOfDoing_73 : decode cX3_reasonOfDoing 73 = .ok (.ireturn, 1) := by decide +kernel
theorem dX3_reasonOfDoing_74 : decode cX3_reasonOfDoing 74 = .ok (.aload_n 1, 1) := by decide +kernel
theorem dX3_reasonOfDoing_75 : decode cX3_reasonOfDoing 75 = .ok (.invokestatic 62, 3) := by decide +kernel
theorem dX3_reasonOfDoing_78 : decode cX3_reasonOfDoing 78 = .ok (.ireturn, 1) := by decide +kernel
theorem dX3_reasonOfDoing_79 : decode cX3_reasonOfDoing 79 = .ok (.aload_n 1, 1) := by decide +kernel
theorem dX3_reasonOfDoing_80 : decode cX3_reasonOfDoing 80 = .ok (.iload_n 3, 1) := by decide +kernel
theorem dX3_reasonOfDoing_81 : decode cX3_reasonOfDoing 81 = .ok (.invokestatic 66, 3) := by decide +kernel
theorem dX3_reasonOfDoing_84 : decode cX3_reasonOfDoing 84 = .ok (.ireturn, 1) := by decide +kernel
theorem dX3_reasonOfDoing_85 : decode cX3_reasonOfDoing 85 = .ok (.aload_n 1, 1) := by decide +kernel
theorem dX3_reasonOfDoing_86 : decode cX3_reasonOfDoing 86 = .ok (.invokestatic 69, 3) := by decide +kernel
theorem dX3_reasonOfDoing_89 : decode cX3_reasonOfDoing 89 = .ok (.ireturn, 1) := by decide +kernel
theorem dX3_takeIn_0 : decode cX3_takeIn 0 = .ok (.aload_n 0, 1) := by decide +kernel
theorem dX3_takeIn_1 : decode cX3_takeIn 1 = .ok (.getfield 72, 3) := by decide +kernel
theorem dX3_takeIn_4 : decode cX3_takeIn 4 = .ok (.iload_n 1, 1) := by decide +kernel
theorem dX3_takeIn_5 : decode cX3_takeIn 5 = .ok (.invokevirtual 78, 3) := by decide +kernel
theorem dX3_takeIn_8 : decode cX3_takeIn 8 = .ok (.ifCond .ne 5, 3) := by decide +kernel
theorem dX3_takeIn_11 : decode cX3_takeIn 11 = .ok (.iconst 2, 1) := by decide +kernel
theorem dX3_takeIn_12 : decode cX3_takeIn 12 = .ok (.ireturn, 1) := by decide +kernel
theorem dX3_takeIn_13 : decode cX3_takeIn 13 = .ok (.aload_n 0, 1) := by decide +kernel
theorem dX3_takeIn_14 : decode cX3_takeIn 14 = .ok (.iload_n 1, 1) := by decide +kernel
theorem dX3_takeIn_15 : decode cX3_takeIn 15 = .ok (.invokevirtual 83, 3) := by decide +kernel
theorem dX3_takeIn_18 : decode cX3_takeIn 18 = .ok (.ifCond .eq 5, 3) := by decide +kernel
theorem dX3_takeIn_21 : decode cX3_takeIn 21 = .ok (.iconst 3, 1) := by decide +kernel
theorem dX3_takeIn_22 : decode cX3_takeIn 22 = .ok (.ireturn, 1) := by decide +kernel
theorem dX3_takeIn_23 : decode cX3_takeIn 23 = .ok (.aload_n 0, 1) := by decide +kernel
theorem dX3_takeIn_24 : decode cX3_takeIn 24 = .ok (.iload_n 1, 1) := by decide +kernel
theorem dX3_takeIn_25 : decode cX3_takeIn 25 = .ok (.invokevirtual 86, 3) := by decide +kernel
theorem dX3_takeIn_28 : decode cX3_takeIn 28 = .ok (.pop, 1) := by decide +kernel
theorem dX3_takeIn_29 : decode cX3_takeIn 29 = .ok (.iconst 0, 1) := by decide +kernel
theorem dX3_takeIn_30 : decode cX3_takeIn 30 = .ok (.ireturn, 1) := by decide +kernel
theorem dX3_drawIn_0 : decode cX3_drawIn 0 = .ok (.aload_n 1, 1) := by decide +kernel
theorem dX3_drawIn_1 : decode cX3_drawIn 1 = .ok (.getfield 89, 3) := by decide +kernel
theorem dX3_drawIn_4 : decode cX3_drawIn 4 = .ok (.iload_n 2, 1) := by decide +kernel
theorem dX3_drawIn_5 : decode cX3_drawIn 5 = .ok (.invokevirtual 93, 3) := by decide +kernel
theorem dX3_drawIn_8 : decode cX3_drawIn 8 = .ok (.ifCond .ne 5, 3) := by decide +kernel
theorem dX3_drawIn_11 : decode cX3_drawIn 11 = .ok (.iconst 2, 1) := by decide +kernel
theorem dX3_drawIn_12 : decode cX3_drawIn 12 = .ok (.ireturn, 1) := by decide +kernel
theorem dX3_drawIn_13 : decode cX3_drawIn 13 = .ok (.aload_n 1, 1) := by decide +kernel
theorem dX3_drawIn_14 : decode cX3_drawIn 14 = .ok (.iload_n 2, 1) := by decide +kernel
theorem dX3_drawIn_15 : decode cX3_drawIn 15 = .ok (.iload_n 3, 1) := by decide +kernel
theorem dX3_drawIn_16 : decode cX3_drawIn 16 = .ok (.iconst 0, 1) := by decide +kernel
theorem dX3_drawIn_17 : decode cX3_drawIn 17 = .ok (.invokevirtual 96, 3) := by decide +kernel
theorem dX3_drawIn_20 : decode cX3_drawIn 20 = .ok (.istore 4, 2) := by decide +kernel
theorem dX3_drawIn_22 : decode cX3_drawIn 22 = .ok (.iload 4, 2) := by decide +kernel
theorem dX3_drawIn_24 : decode cX3_drawIn 24 = .ok (.ifCond .eq 11, 3) := by decide +kernel
theorem dX3_drawIn_27 : decode cX3_drawIn 27 = .ok (.aload_n 0, 1) := by decide +kernel
theorem dX3_drawIn_28 : decode cX3_drawIn 28 = .ok (.iload 4, 2) := by decide +kernel
theorem dX3_drawIn_30 : decode cX3_drawIn 30 = .ok (.putfield 26, 3) := by decide +kernel
theorem dX3_drawIn_33 : decode cX3_drawIn 33 = .ok (.iconst 3, 1) := by decide +kernel
theorem dX3_drawIn_34 : decode cX3_drawIn 34 = .ok (.ireturn, 1) := by decide +kernel
theorem dX3_drawIn_35 : decode cX3_drawIn 35 = .ok (.aload_n 1, 1) := by decide +kernel
theorem dX3_drawIn_36 : decode cX3_drawIn 36 = .ok (.iload_n 2, 1) := by decide +kernel
theorem dX3_drawIn_37 : decode cX3_drawIn 37 = .ok (.iload_n 3, 1) := by decide +kernel
theorem dX3_drawIn_38 : decode cX3_drawIn 38 = .ok (.invokevirtual 100, 3) := by decide +kernel
theorem dX3_drawIn_41 : decode cX3_drawIn 41 = .ok (.iconst 0, 1) := by decide +kernel
theorem dX3_drawIn_42 : decode cX3_drawIn 42 = .ok (.ireturn, 1) := by decide +kernel
theorem dX3_goHomeIn_0 : decode cX3_goHomeIn 0 = .ok (.aload_n 0, 1) := by decide +kernel
theorem dX3_goHomeIn_1 : decode cX3_goHomeIn 1 = .ok (.invokevirtual 104, 3) := by decide +kernel
theorem dX3_goHomeIn_4 : decode cX3_goHomeIn 4 = .ok (.ifCond .eq 5, 3) := by decide +kernel
theorem dX3_goHomeIn_7 : decode cX3_goHomeIn 7 = .ok (.iconst 3, 1) := by decide +kernel
theorem dX3_goHomeIn_8 : decode cX3_goHomeIn 8 = .ok (.ireturn, 1) := by decide +kernel
theorem dX3_goHomeIn_9 : decode cX3_goHomeIn 9 = .ok (.aload_n 0, 1) := by decide +kernel
theorem dX3_goHomeIn_10 : decode cX3_goHomeIn 10 = .ok (.iconst (-1), 1) := by decide +kernel
theorem dX3_goHomeIn_11 : decode cX3_goHomeIn 11 = .ok (.invokevirtual 86, 3) := by decide +kernel
theorem dX3_goHomeIn_14 : decode cX3_goHomeIn 14 = .ok (.pop, 1) := by decide +kernel
theorem dX3_goHomeIn_15 : decode cX3_goHomeIn 15 = .ok (.iconst 0, 1) := by decide +kernel
theorem dX3_goHomeIn_16 : decode cX3_goHomeIn 16 = .ok (.ireturn, 1) := by decide +kernel
theorem dX3_waitIn_0 : decode cX3_waitIn 0 = .ok (.aload_n 0, 1) := by decide +kernel
theorem dX3_waitIn_1 : decode cX3_waitIn 1 = .ok (.iload_n 1, 1) := by decide +kernel
theorem dX3_waitIn_2 : decode cX3_waitIn 2 = .ok (.invokevirtual 107, 3) := by decide +kernel
theorem dX3_waitIn_5 : decode cX3_waitIn 5 = .ok (.ifCond .eq 5, 3) := by decide +kernel
theorem dX3_waitIn_8 : decode cX3_waitIn 8 = .ok (.iconst 3, 1) := by decide +kernel
theorem dX3_waitIn_9 : decode cX3_waitIn 9 = .ok (.ireturn, 1) := by decide +kernel
theorem dX3_waitIn_10 : decode cX3_waitIn 10 = .ok (.aload_n 0, 1) := by decide +kernel
theorem dX3_waitIn_11 : decode cX3_waitIn 11 = .ok (.iload_n 1, 1) := by decide +kernel
theorem dX3_waitIn_12 : decode cX3_waitIn 12 = .ok (.invokevirtual 110, 3) := by decide +kernel
theorem dX3_waitIn_15 : decode cX3_waitIn 15 = .ok (.iconst 0, 1) := by decide +kernel
theorem dX3_waitIn_16 : decode cX3_waitIn 16 = .ok (.ireturn, 1) := by decide +kernel
theorem dX3_cleanIn_0 : decode cX3_cleanIn 0 = .ok (.aload_n 0, 1) := by decide +kernel
theorem dX3_cleanIn_1 : decode cX3_cleanIn 1 = .ok (.invokevirtual 114, 3) := by decide +kernel
theorem dX3_cleanIn_4 : decode cX3_cleanIn 4 = .ok (.ifCond .eq 5, 3) := by decide +kernel
theorem dX3_cleanIn_7 : decode cX3_cleanIn 7 = .ok (.iconst 3, 1) := by decide +kernel
theorem dX3_cleanIn_8 : decode cX3_cleanIn 8 = .ok (.ireturn, 1) := by decide +kernel
theorem dX3_cleanIn_9 : decode cX3_cleanIn 9 = .ok (.aload_n 0, 1) := by decide +kernel
theorem dX3_cleanIn_10 : decode cX3_cleanIn 10 = .ok (.invokevirtual 117, 3) := by decide +kernel
theorem dX3_cleanIn_13 : decode cX3_cleanIn 13 = .ok (.pop, 1) := by decide +kernel
theorem dX3_cleanIn_14 : decode cX3_cleanIn 14 = .ok (.iconst 0, 1) := by decide +kernel
theorem dX3_cleanIn_15 : decode cX3_cleanIn 15 = .ok (.ireturn, 1) := by decide +kernel
theorem dX4_init_0 : decode cX4_init 0 = .ok (.aload_n 0, 1) := by decide +kernel
theorem dX4_init_1 : decode cX4_init 1 = .ok (.invokespecial 3, 3) := by decide +kernel
theorem dX4_init_4 : decode cX4_init 4 = .ok (.aload_n 0, 1) := by decide +kernel
theorem dX4_init_5 : decode cX4_init 5 = .ok (.iconst 0, 1) := by decide +kernel
theorem dX4_init_6 : decode cX4_init 6 = .ok (.putfield 9, 3) := by decide +kernel
theorem dX4_init_9 : decode cX4_init 9 = .ok (.aload_n 0, 1) := by decide +kernel
theorem dX4_init_10 : decode cX4_init 10 = .ok (.iconst 5, 1) := by decide +kernel
theorem dX4_init_11 : decode cX4_init 11 = .ok (.newarray .int, 2) := by decide +kernel
theorem dX4_init_13 : decode cX4_init 13 = .ok (.putfield 15, 3) := by decide +kernel
theorem dX4_init_16 : decode cX4_init 16 = .ok (.aload_n 0, 1) := by decide +kernel
theorem dX4_init_17 : decode cX4_init 17 = .ok (.iconst 5, 1) := by decide +kernel
theorem dX4_init_18 : decode cX4_init 18 = .ok (.newarray .int, 2) := by decide +kernel
theorem dX4_init_20 : decode cX4_init 20 = .ok (.putfield 19, 3) := by decide +kernel
theorem dX4_init_23 : decode cX4_init 23 = .ok (.aload_n 0, 1) := by decide +kernel
theorem dX4_init_24 : decode cX4_init 24 = .ok (.iconst 5, 1) := by decide +kernel
theorem dX4_init_25 : decode cX4_init 25 = .ok (.newarray .int, 2) := by decide +kernel
theorem dX4_init_27 : decode cX4_init 27 = .ok (.putfield 22, 3) := by decide +kernel
theorem dX4_init_30 : decode cX4_init 30 = .ok (.aload_n 0, 1) := by decide +kernel
theorem dX4_init_31 : decode cX4_init 31 = .ok (.iconst 5, 1) := by decide +kernel
theorem dX4_init_32 : decode cX4_init 32 = .ok (.newarray .int, 2) := by decide +kernel
theorem dX4_init_34 : decode cX4_init 34 = .ok (.putfield 25, 3) := by decide +kernel
theorem dX4_init_37 : decode cX4_init 37 = .ok (.aload_n 0, 1) := by decide +kernel
theorem dX4_init_38 : decode cX4_init 38 = .ok (.iconst 5, 1) := by decide +kernel
theorem dX4_init_39 : decode cX4_init 39 = .ok (.newarray .int, 2) := by decide +kernel
theorem dX4_init_41 : decode cX4_init 41 = .ok (.putfield 28, 3) := by decide +kernel
theorem dX4_init_44 : decode cX4_init 44 = .ok (.aload_n 0, 1) := by decide +kernel
theorem dX4_init_45 : decode cX4_init 45 = .ok (.iconst 5, 1) := by decide +kernel
theorem dX4_init_46 : decode cX4_init 46 = .ok (.newarray .int, 2) := by decide +kernel
theorem dX4_init_48 : decode cX4_init 48 = .ok (.putfield 31, 3) := by decide +kernel
theorem dX4_init_51 : decode cX4_init 51 = .ok (.aload_n 0, 1) := by decide +kernel
theorem dX4_init_52 : decode cX4_init 52 = .ok (.iconst 5, 1) := by decide +kernel
theorem dX4_init_53 : decode cX4_init 53 = .ok (.newarray .int, 2) := by decide +kernel
theorem dX4_init_55 : decode cX4_init 55 = .ok (.putfield 34, 3) := by decide +kernel
theorem dX4_init_58 : decode cX4_init 58 = .ok (.return_, 1) := by decide +kernel
theorem dX4_copyFrom_0 : decode cX4_copyFrom 0 = .ok (.aload_n 0, 1) := by decide +kernel
theorem dX4_copyFrom_1 : decode cX4_copyFrom 1 = .ok (.aload_n 1, 1) := by decide +kernel
theorem dX4_copyFrom_2 : decode cX4_copyFrom 2 = .ok (.getfield 9, 3) := by decide +kernel
theorem dX4_copyFrom_5 : decode cX4_copyFrom 5 = .ok (.putfield 9, 3) := by decide +kernel
theorem dX4_copyFrom_8 : decode cX4_copyFrom 8 = .ok (.aload_n 1, 1) := by decide +kernel
theorem dX4_copyFrom_9 : decode cX4_copyFrom 9 = .ok (.getfield 15, 3) := by decide +kernel
theorem dX4_copyFrom_12 : decode cX4_copyFrom 12 = .ok (.aload_n 0, 1) := by decide +kernel
theorem dX4_copyFrom_13 : decode cX4_copyFrom 13 = .ok (.getfield 15, 3) := by decide +kernel
theorem dX4_copyFrom_16 : decode cX4_copyFrom 16 = .ok (.invokestatic 37, 3) := by decide +kernel
theorem dX4_copyFrom_19 : decode cX4_copyFrom 19 = .ok (.aload_n 1, 1) := by decide +kernel
theorem dX4_copyFrom_20 : decode cX4_copyFrom 20 = .ok (.getfield 19, 3) := by decide +kernel
theorem dX4_copyFrom_23 : decode cX4_copyFrom 23 = .ok (.aload_n 0, 1) := by decide +kernel
theorem dX4_copyFrom_24 : decode cX4_copyFrom 24 = .ok (.getfield 19, 3) := by decide +kernel
theorem dX4_copyFrom_27 : decode cX4_copyFrom 27 = .ok (.invokestatic 37, 3) := by decide +kernel
theorem dX4_copyFrom_30 : decode cX4_copyFrom 30 = .ok (.aload_n 1, 1) := by decide +kernel
theorem dX4_copyFrom_31 : decode cX4_copyFrom 31 = .ok (.getfield 22, 3) := by decide +kernel
theorem dX4_copyFrom_34 : decode cX4_copyFrom 34 = .ok (.aload_n 0, 1) := by decide +kernel
theorem dX4_copyFrom_35 : decode cX4_copyFrom 35 = .ok (.getfield 22, 3) := by decide +kernel
theorem dX4_copyFrom_38 : decode cX4_copyFrom 38 = .ok (.invokestatic 37, 3) := by decide +kernel
theorem dX4_copyFrom_41 : decode cX4_copyFrom 41 = .ok (.aload_n 1, 1) := by decide +kernel
theorem dX4_copyFrom_42 : decode cX4_copyFrom 42 = .ok (.getfield 25, 3) := by decide +kernel
theorem dX4_copyFrom_45 : decode cX4_copyFrom 45 = .ok (.aload_n 0, 1) := by decide +kernel
theorem dX4_copyFrom_46 : decode cX4_copyFrom 46 = .ok (.getfield 25, 3) := by decide +kernel
theorem dX4_copyFrom_49 : decode cX4_copyFrom 49 = .ok (.invokestatic 37, 3) := by decide +kernel
theorem dX4_copyFrom_52 : decode cX4_copyFrom 52 = .ok (.aload_n 1, 1) := by decide +kernel
theorem dX4_copyFrom_53 : decode cX4_copyFrom 53 = .ok (.getfield 28, 3) := by decide +kernel
theorem dX4_copyFrom_56 : decode cX4_copyFrom 56 = .ok (.aload_n 0, 1) := by decide +kernel
theorem dX4_copyFrom_57 : decode cX4_copyFrom 57 = .ok (.getfield 28, 3) := by decide +kernel
theorem dX4_copyFrom_60 : decode cX4_copyFrom 60 = .ok (.invokestatic 37, 3) := by decide +kernel
theorem dX4_copyFrom_63 : decode cX4_copyFrom 63 = .ok (.aload_n 1, 1) := by decide +kernel
theorem dX4_copyFrom_64 : decode cX4_copyFrom 64 = .ok (.getfield 31, 3) := by decide +kernel
theorem dX4_copyFrom_67 : decode cX4_copyFrom 67 = .ok (.aload_n 0, 1) := by decide +kernel
theorem dX4_copyFrom_68 : decode cX4_copyFrom 68 = .ok (.getfield 31, 3) := by decide +kernel
theorem dX4_copyFrom_71 : decode cX4_copyFrom 71 = .ok (.invokestatic 37, 3) := by decide +kernel
theorem dX4_copyFrom_74 : decode cX4_copyFrom 74 = .ok (.aload_n 1, 1) := by decide +kernel
theorem dX4_copyFrom_75 : decode cX4_copyFrom 75 = .ok (.getfield 34, 3) := by decide +kernel
theorem dX4_copyFrom_78 : decode cX4_copyFrom 78 = .ok (.aload_n 0, 1) := by decide +kernel
theorem dX4_copyFrom_79 : decode cX4_copyFrom 79 = .ok (.getfield 34, 3) := by decide +kernel
theorem dX4_copyFrom_82 : decode cX4_copyFrom 82 = .ok (.invokestatic 37, 3) := by decide +kernel
theorem dX4_copyFrom_85 : decode cX4_copyFrom 85 = .ok (.return_, 1) := by decide +kernel
theorem dX4_has_0 : decode cX4_has 0 = .ok (.iload_n 1, 1) := by decide +kernel
theorem dX4_has_1 : decode cX4_has 1 = .ok (.iconst 0, 1) := by decide +kernel
theorem dX4_has_2 : decode cX4_has 2 = .ok (.aload_n 0, 1) := by decide +kernel
theorem dX4_has_3 : decode cX4_has 3 = .ok (.getfield 9, 3) := by decide +kernel
theorem dX4_has_6 : decode cX4_has 6 = .ok (.iconst 1, 1) := by decide +kernel
theorem dX4_has_7 : decode cX4_has 7 = .ok (.isub, 1) := by decide +kernel
theorem dX4_has_8 : decode cX4_has 8 = .ok (.invokestatic 41, 3) := by decide +kernel
theorem dX4_has_11 : decode cX4_has 11 = .ok (.ireturn, 1) := by decide +kernel
theorem dX4_isAway_0 : decode cX4_isAway 0 = .ok (.aload_n 0, 1) := by decide +kernel
theorem dX4_isAway_1 : decode cX4_isAway 1 = .ok (.getfield 34, 3) := by decide +kernel
theorem dX4_isAway_4 : decode cX4_isAway 4 = .ok (.iload_n 1, 1) := by decide +kernel
theorem dX4_isAway_5 : decode cX4_isAway 5 = .ok (.iaload, 1) := by decide +kernel
theorem dX4_isAway_6 : decode cX4_isAway 6 = .ok (.iconst 1, 1) := by decide +kernel
theorem dX4_isAway_7 : decode cX4_isAway 7 = .ok (.if_icmp .ne 7, 3) := by decide +kernel
theorem dX4_isAway_10 : decode cX4_isAway 10 = .ok (.iconst 1, 1) := by decide +kernel
theorem dX4_isAway_11 : decode cX4_isAway 11 = .ok (.goto 4, 3) := by decide +kernel
theorem dX4_isAway_14 : decode cX4_isAway 14 = .ok (.iconst 0, 1) := by decide +kernel
theorem dX4_isAway_15 : decode cX4_isAway 15 = .ok (.ireturn, 1) := by decide +kernel
theorem dX4_isPlaceOfAny_0 : decode cX4_isPlaceOfAny 0 = .ok (.iconst 0, 1) := by decide +kernel
theorem dX4_isPlaceOfAny_1 : decode cX4_isPlaceOfAny 1 = .ok (.istore_n 2, 1) := by decide +kernel
theorem dX4_isPlaceOfAny_2 : decode cX4_isPlaceOfAny 2 = .ok (.iload_n 2, 1) := by decide +kernel
theorem dX4_isPlaceOfAny_3 : decode cX4_isPlaceOfAny 3 = .ok (.aload_n 0, 1) := by decide +kernel
theorem dX4_isPlaceOfAny_4 : decode cX4_isPlaceOfAny 4 = .ok (.getfield 9, 3) := by decide +kernel
theorem dX4_isPlaceOfAny_7 : decode cX4_isPlaceOfAny 7 = .ok (.if_icmp .ge 21, 3) := by decide +kernel
theorem dX4_isPlaceOfAny_10 : decode cX4_isPlaceOfAny 10 = .ok (.aload_n 0, 1) := by decide +kernel
theorem dX4_isPlaceOfAny_11 : decode cX4_isPlaceOfAny 11 = .ok (.getfield 22, 3) := by decide +kernel
theorem dX4_isPlaceOfAny_14 : decode cX4_isPlaceOfAny 14 = .ok (.iload_n 2, 1) := by decide +kernel
theorem dX4_isPlaceOfAny_15 : decode cX4_isPlaceOfAny 15 = .ok (.iaload, 1) := by decide +kernel
theorem dX4_isPlaceOfAny_16 : decode cX4_isPlaceOfAny 16 = .ok (.iload_n 1, 1) := by decide +kernel
theorem dX4_isPlaceOfAny_17 : decode cX4_isPlaceOfAny 17 = .ok (.if_icmp .ne 5, 3) := by decide +kernel
theorem dX4_isPlaceOfAny_20 : decode cX4_isPlaceOfAny 20 = .ok (.iconst 1, 1) := by decide +kernel
theorem dX4_isPlaceOfAny_21 : decode cX4_isPlaceOfAny 21 = .ok (.ireturn, 1) := by decide +kernel
theorem dX4_isPlaceOfAny_22 : decode cX4_isPlaceOfAny 22 = .ok (.iinc 2 1, 3) := by decide +kernel
theorem dX4_isPlaceOfAny_25 : decode cX4_isPlaceOfAny 25 = .ok (.goto (-23), 3) := by decide +kernel
theorem dX4_isPlaceOfAny_28 : decode cX4_isPlaceOfAny 28 = .ok (.iconst 0, 1) := by decide +kernel
theorem dX4_isPlaceOfAny_29 : decode cX4_isPlaceOfAny 29 = .ok (.ireturn, 1) := by decide +kernel
theorem dX4_add_0 : decode cX4_add 0 = .ok (.aload_n 0, 1) := by decide +kernel
theorem dX4_add_1 : decode cX4_add 1 = .ok (.getfield 9, 3) := by decide +kernel
theorem dX4_add_4 : decode cX4_add 4 = .ok (.istore 4, 2) := by decide +kernel
theorem dX4_add_6 : decode cX4_add 6 = .ok (.aload_n 0, 1) := by decide +kernel
theorem dX4_add_7 : decode cX4_add 7 = .ok (.getfield 15, 3) := by decide +kernel
theorem dX4_add_10 : decode cX4_add 10 = .ok (.iload 4, 2) := by decide +kernel
theorem dX4_add_12 : decode cX4_add 12 = .ok (.iload_n 1, 1) := by decide +kernel
theorem dX4_add_13 : decode cX4_add 13 = .ok (.iastore, 1) := by decide +kernel
theorem dX4_add_14 : decode cX4_add 14 = .ok (.aload_n 0, 1) := by decide +kernel
theorem dX4_add_15 : decode cX4_add 15 = .ok (.getfield 19, 3) := by decide +kernel
theorem dX4_add_18 : decode cX4_add 18 = .ok (.iload 4, 2) := by decide +kernel
theorem dX4_add_20 : decode cX4_add 20 = .ok (.iload_n 2, 1) := by decide +kernel
theorem dX4_add_21 : decode cX4_add 21 = .ok (.iastore, 1) := by decide +kernel
theorem dX4_add_22 : decode cX4_add 22 = .ok (.aload_n 0, 1) := by decide +kernel
theorem dX4_add_23 : decode cX4_add 23 = .ok (.getfield 22, 3) := by decide +kernel
theorem dX4_add_26 : decode cX4_add 26 = .ok (.iload 4, 2) := by decide +kernel
theorem dX4_add_28 : decode cX4_add 28 = .ok (.iload_n 3, 1) := by decide +kernel
theorem dX4_add_29 : decode cX4_add 29 = .ok (.iastore, 1) := by decide +kernel
theorem dX4_add_30 : decode cX4_add 30 = .ok (.aload_n 0, 1) := by decide +kernel
theorem dX4_add_31 : decode cX4_add 31 = .ok (.getfield 25, 3) := by decide +kernel
theorem dX4_add_34 : decode cX4_add 34 = .ok (.iload 4, 2) := by decide +kernel
theorem dX4_add_36 : decode cX4_add 36 = .ok (.iload_n 2, 1) := by decide +kernel
theorem dX4_add_37 : decode cX4_add 37 = .ok (.iastore, 1) := by decide +kernel
theorem dX4_add_38 : decode cX4_add 38 = .ok (.aload_n 0, 1) := by decide +kernel
theorem dX4_add_39 : decode cX4_add 39 = .ok (.getfield 28, 3) := by decide +kernel
theorem dX4_add_42 : decode cX4_add 42 = .ok (.iload 4, 2) := by decide +kernel
theorem dX4_add_44 : decode cX4_add 44 = .ok (.iconst 0, 1) := by decide +kernel
theorem dX4_add_45 : decode cX4_add 45 = .ok (.iastore, 1) := by decide +kernel
theorem dX4_add_46 : decode cX4_add 46 = .ok (.aload_n 0, 1) := by decide +kernel
theorem dX4_add_47 : decode cX4_add 47 = .ok (.getfield 31, 3) := by decide +kernel
theorem dX4_add_50 : decode cX4_add 50 = .ok (.iload 4, 2) := by decide +kernel
theorem dX4_add_52 : decode cX4_add 52 = .ok (.iconst 0, 1) := by decide +kernel
theorem dX4_add_53 : decode cX4_add 53 = .ok (.iastore, 1) := by decide +kernel
theorem dX4_add_54 : decode cX4_add 54 = .ok (.aload_n 0, 1) := by decide +kernel
theorem dX4_add_55 : decode cX4_add 55 = .ok (.getfield 34, 3) := by decide +kernel
theorem dX4_add_58 : decode cX4_add 58 = .ok (.iload 4, 2) := by decide +kernel
theorem dX4_add_60 : decode cX4_add 60 = .ok (.iconst 0, 1) := by decide +kernel
theorem dX4_add_61 : decode cX4_add 61 = .ok (.iastore, 1) := by decide +kernel
theorem dX4_add_62 : decode cX4_add 62 = .ok (.aload_n 0, 1) := by decide +kernel
theorem dX4_add_63 : decode cX4_add 63 = .ok (.dup, 1) := by decide +kernel
theorem dX4_add_64 : decode cX4_add 64 = .ok (.getfield 9, 3) := by decide +kernel
theorem dX4_add_67 : decode cX4_add 67 = .ok (.iconst 1, 1) := by decide +kernel
theorem dX4_add_68 : decode cX4_add 68 = .ok (.iadd, 1) := by decide +kernel
theorem dX4_add_69 : decode cX4_add 69 = .ok (.putfield 9, 3) := by decide +kernel
theorem dX4_add_72 : decode cX4_add 72 = .ok (.iload 4, 2) := by decide +kernel
theorem dX4_add_74 : decode cX4_add 74 = .ok (.ireturn, 1) := by decide +kernel
theorem dX4_howManyPresent_0 : decode cX4_howManyPresent 0 = .ok (.iconst 0, 1) := by decide +kernel
theorem dX4_howManyPresent_1 : decode cX4_howManyPresent 1 = .ok (.istore_n 1, 1) := by decide +kernel
theorem dX4_howManyPresent_2 : decode cX4_howManyPresent 2 = .ok (.iconst 0, 1) := by decide +kernel
theorem dX4_howManyPresent_3 : decode cX4_howManyPresent 3 = .ok (.istore_n 2, 1) := by decide +kernel
theorem dX4_howManyPresent_4 : decode cX4_howManyPresent 4 = .ok (.iload_n 2, 1) := by decide +kernel
theorem dX4_howManyPresent_5 : decode cX4_howManyPresent 5 = .ok (.aload_n 0, 1) := by decide +kernel
theorem dX4_howManyPresent_6 : decode cX4_howManyPresent 6 = .ok (.getfield 9, 3) := by decide +kernel
theorem dX4_howManyPresent_9 : decode cX4_howManyPresent 9 = .ok (.if_icmp .ge 20, 3) := by decide +kernel
theorem dX4_howManyPresent_12 : decode cX4_howManyPresent 12 = .ok (.iload_n 1, 1) := by decide +kernel
theorem dX4_howManyPresent_13 : decode cX4_howManyPresent 13 = .ok (.iconst 1, 1) := by decide +kernel
theorem dX4_howManyPresent_14 : decode cX4_howManyPresent 14 = .ok (.aload_n 0, 1) := by decide +kernel
theorem dX4_howManyPresent_15 : decode cX4_howManyPresent 15 = .ok (.getfield 34, 3) := by decide +kernel
theorem dX4_howManyPresent_18 : decode cX4_howManyPresent 18 = .ok (.iload_n 2, 1) := by decide +kernel
theorem dX4_howManyPresent_19 : decode cX4_howManyPresent 19 = .ok (.iaload, 1) := by decide +kernel
theorem dX4_howManyPresent_20 : decode cX4_howManyPresent 20 = .ok (.isub, 1) := by decide +kernel
theorem dX4_howManyPresent_21 : decode cX4_howManyPresent 21 = .ok (.iadd, 1) := by decide +kernel
theorem dX4_howManyPresent_22 : decode cX4_howManyPresent 22 = .ok (.istore_n 1, 1) := by decide +kernel
theorem dX4_howManyPresent_23 : decode cX4_howManyPresent 23 = .ok (.iinc 2 1, 3) := by decide +kernel
theorem dX4_howManyPresent_26 : decode cX4_howManyPresent 26 = .ok (.goto (-22), 3) := by decide +kernel
theorem dX4_howManyPresent_29 : decode cX4_howManyPresent 29 = .ok (.iload_n 1, 1) := by decide +kernel
theorem dX4_howManyPresent_30 : decode cX4_howManyPresent 30 = .ok (.ireturn, 1) := by decide +kernel
theorem dX4_leastDrawnBut_0 : decode cX4_leastDrawnBut 0 = .ok (.iconst (-1), 1) := by decide +kernel
theorem dX4_leastDrawnBut_1 : decode cX4_leastDrawnBut 1 = .ok (.istore_n 2, 1) := by decide +kernel
theorem dX4_leastDrawnBut_2 : decode cX4_leastDrawnBut 2 = .ok (.iconst 0, 1) := by decide +kernel
theorem dX4_leastDrawnBut_3 : decode cX4_leastDrawnBut 3 = .ok (.istore_n 3, 1) := by decide +kernel
theorem dX4_leastDrawnBut_4 : decode cX4_leastDrawnBut 4 = .ok (.iload_n 3, 1) := by decide +kernel
theorem dX4_leastDrawnBut_5 : decode cX4_leastDrawnBut 5 = .ok (.aload_n 0, 1) := by decide +kernel
theorem dX4_leastDrawnBut_6 : decode cX4_leastDrawnBut 6 = .ok (.getfield 9, 3) := by decide +kernel
theorem dX4_leastDrawnBut_9 : decode cX4_leastDrawnBut 9 = .ok (.if_icmp .ge 44, 3) := by decide +kernel
theorem dX4_leastDrawnBut_12 : decode cX4_leastDrawnBut 12 = .ok (.iload_n 3, 1) := by decide +kernel
theorem dX4_leastDrawnBut_13 : decode cX4_leastDrawnBut 13 = .ok (.iload_n 1, 1) := by decide +kernel
theorem dX4_leastDrawnBut_14 : decode cX4_leastDrawnBut 14 = .ok (.if_icmp .eq 33, 3) := by decide +kernel
theorem dX4_leastDrawnBut_17 : decode cX4_leastDrawnBut 17 = .ok (.aload_n 0, 1) := by decide +kernel
theorem dX4_leastDrawnBut_18 : decode cX4_leastDrawnBut 18 = .ok (.iload_n 3, 1) := by decide +kernel
theorem dX4_leastDrawnBut_19 : decode cX4_leastDrawnBut 19 = .ok (.invokevirtual 45, 3) := by decide +kernel
theorem dX4_leastDrawnBut_22 : decode cX4_leastDrawnBut 22 = .ok (.ifCond .ne 25, 3) := by decide +kernel
theorem dX4_leastDrawnBut_25 : decode cX4_leastDrawnBut 25 = .ok (.iload_n 2, 1) := by decide +kernel
theorem dX4_leastDrawnBut_26 : decode cX4_leastDrawnBut 26 = .ok (.iconst (-1), 1) := by decide +kernel
theorem dX4_leastDrawnBut_27 : decode cX4_leastDrawnBut 27 = .ok (.if_icmp .eq 13, 3) := by decide +kernel
theorem dX4_leastDrawnBut_30 : decode cX4_leastDrawnBut 30 = .ok (.aload_n 0, 1) := by decide +kernel
theorem dX4_leastDrawnBut_31 : decode cX4_leastDrawnBut 31 = .ok (.getfield 28, 3) := by decide +kernel
theorem dX4_leastDrawnBut_34 : decode cX4_leastDrawnBut 34 = .ok (.iload_n 3, 1) := by decide +kernel
theorem dX4_leastDrawnBut_35 : decode cX4_leastDrawnBut 35 = .ok (.iaload, 1) := by decide +kernel
theorem dX4_leastDrawnBut_36 : decode cX4_leastDrawnBut 36 = .ok (.iload_n 2, 1) := by decide +kernel
theorem dX4_leastDrawnBut_37 : decode cX4_leastDrawnBut 37 = .ok (.if_icmp .ge 10, 3) := by decide +kernel
theorem dX4_leastDrawnBut_40 : decode cX4_leastDrawnBut 40 = .ok (.aload_n 0, 1) := by decide +kernel
theorem dX4_leastDrawnBut_41 : decode cX4_leastDrawnBut 41 = .ok (.getfield 28, 3) := by decide +kernel
theorem dX4_leastDrawnBut_44 : decode cX4_leastDrawnBut 44 = .ok (.iload_n 3, 1) := by decide +kernel
theorem dX4_leastDrawnBut_45 : decode cX4_leastDrawnBut 45 = .ok (.iaload, 1) := by decide +kernel
theorem dX4_leastDrawnBut_46 : decode cX4_leastDrawnBut 46 = .ok (.istore_n 2, 1) := by decide +kernel
theorem dX4_leastDrawnBut_47 : decode cX4_leastDrawnBut 47 = .ok (.iinc 3 1, 3) := by decide +kernel
theorem dX4_leastDrawnBut_50 : decode cX4_leastDrawnBut 50 = .ok (.goto (-46), 3) := by decide +kernel
theorem dX4_leastDrawnBut_53 : decode cX4_leastDrawnBut 53 = .ok (.iload_n 2, 1) := by decide +kernel
theorem dX4_leastDrawnBut_54 : decode cX4_leastDrawnBut 54 = .ok (.ireturn, 1) := by decide +kernel
theorem dX4_spreadOf_0 : decode cX4_spreadOf 0 = .ok (.iconst (-1), 1) := by decide +kernel
theorem dX4_spreadOf_1 : decode cX4_spreadOf 1 = .ok (.istore_n 2, 1) := by decide +kernel
theorem dX4_spreadOf_2 : decode cX4_spreadOf 2 = .ok (.iconst (-1), 1) := by decide +kernel
theorem dX4_spreadOf_3 : decode cX4_spreadOf 3 = .ok (.istore_n 3, 1) := by decide +kernel
theorem dX4_spreadOf_4 : decode cX4_spreadOf 4 = .ok (.iconst 0, 1) := by decide +kernel
theorem dX4_spreadOf_5 : decode cX4_spreadOf 5 = .ok (.istore 4, 2) := by decide +kernel
theorem dX4_spreadOf_7 : decode cX4_spreadOf 7 = .ok (.iload 4, 2) := by decide +kernel
theorem dX4_spreadOf_9 : decode cX4_spreadOf 9 = .ok (.aload_n 0, 1) := by decide +kernel
theorem dX4_spreadOf_10 : decode cX4_spreadOf 10 = .ok (.getfield 9, 3) := by decide +kernel
theorem dX4_spreadOf_13 : decode cX4_spreadOf 13 = .ok (.if_icmp .ge 55, 3) := by decide +kernel
theorem dX4_spreadOf_16 : decode cX4_spreadOf 16 = .ok (.iload 4, 2) := by decide +kernel
theorem dX4_spreadOf_18 : decode cX4_spreadOf 18 = .ok (.aload_n 1, 1) := by decide +kernel
theorem dX4_spreadOf_19 : decode cX4_spreadOf 19 = .ok (.arraylength, 1) := by decide +kernel
theorem dX4_spreadOf_20 : decode cX4_spreadOf 20 = .ok (.if_icmp .ge 48, 3) := by decide +kernel
theorem dX4_spreadOf_23 : decode cX4_spreadOf 23 = .ok (.aload_n 0, 1) := by decide +kernel
theorem dX4_spreadOf_24 : decode cX4_spreadOf 24 = .ok (.iload 4, 2) := by decide +kernel
theorem dX4_spreadOf_26 : decode cX4_spreadOf 26 = .ok (.invokevirtual 45, 3) := by decide +kernel
theorem dX4_spreadOf_29 : decode cX4_spreadOf 29 = .ok (.ifCond .ne 33, 3) := by decide +kernel
theorem dX4_spreadOf_32 : decode cX4_spreadOf 32 = .ok (.iload_n 2, 1) := by decide +kernel
theorem dX4_spreadOf_33 : decode cX4_spreadOf 33 = .ok (.iconst (-1), 1) := by decide +kernel
theorem dX4_spreadOf_34 : decode cX4_spreadOf 34 = .ok (.if_icmp .ne 10, 3) := by decide +kernel
theorem dX4_spreadOf_37 : decode cX4_spreadOf 37 = .ok (.aload_n 1, 1) := by decide +kernel
theorem dX4_spreadOf_38 : decode cX4_spreadOf 38 = .ok (.iload 4, 2) := by decide +kernel
theorem dX4_spreadOf_40 : decode cX4_spreadOf 40 = .ok (.iaload, 1) := by decide +kernel
theorem dX4_spreadOf_41 : decode cX4_spreadOf 41 = .ok (.goto 11, 3) := by decide +kernel
theorem dX4_spreadOf_44 : decode cX4_spreadOf 44 = .ok (.iload_n 2, 1) := by decide +kernel
theorem dX4_spreadOf_45 : decode cX4_spreadOf 45 = .ok (.aload_n 1, 1) := by decide +kernel
theorem dX4_spreadOf_46 : decode cX4_spreadOf 46 = .ok (.iload 4, 2) := by decide +kernel
theorem dX4_spreadOf_48 : decode cX4_spreadOf 48 = .ok (.iaload, 1) := by decide +kernel
theorem dX4_spreadOf_49 : decode cX4_spreadOf 49 = .ok (.invokestatic 49, 3) := by decide +kernel
theorem dX4_spreadOf_52 : decode cX4_spreadOf 52 = .ok (.istore_n 2, 1) := by decide +kernel
theorem dX4_spreadOf_53 : decode cX4_spreadOf 53 = .ok (.iload_n 3, 1) := by decide +kernel
theorem dX4_spreadOf_54 : decode cX4_spreadOf 54 = .ok (.aload_n 1, 1) := by decide +kernel
theorem dX4_spreadOf_55 : decode cX4_spreadOf 55 = .ok (.iload 4, 2) := by decide +kernel
theorem dX4_spreadOf_57 : decode cX4_spreadOf 57 = .ok (.iaload, 1) := by decide +kernel
theorem dX4_spreadOf_58 : decode cX4_spreadOf 58 = .ok (.invokestatic 55, 3) := by decide +kernel
theorem dX4_spreadOf_61 : decode cX4_spreadOf 61 = .ok (.istore_n 3, 1) := by decide +kernel
theorem dX4_spreadOf_62 : decode cX4_spreadOf 62 = .ok (.iinc 4 1, 3) := by decide +kernel
theorem dX4_spreadOf_65 : decode cX4_spreadOf 65 = .ok (.goto (-58), 3) := by decide +kernel
theorem dX4_spreadOf_68 : decode cX4_spreadOf 68 = .ok (.iload_n 2, 1) := by decide +kernel
theorem dX4_spreadOf_69 : decode cX4_spreadOf 69 = .ok (.iconst (-1), 1) := by decide +kernel
theorem dX4_spreadOf_70 : decode cX4_spreadOf 70 = .ok (.if_icmp .ne 8, 3) := by decide +kernel
theorem dX4_spreadOf_73 : decode cX4_spreadOf 73 = .ok (.ldc 58, 2) := by decide +kernel
theorem dX4_spreadOf_75 : decode cX4_spreadOf 75 = .ok (.goto 6, 3) := by decide +kernel
theorem dX4_spreadOf_78 : decode cX4_spreadOf 78 = .ok (.iload_n 3, 1) := by decide +kernel
theorem dX4_spreadOf_79 : decode cX4_spreadOf 79 = .ok (.iload_n 2, 1) := by decide +kernel
theorem dX4_spreadOf_80 : decode cX4_spreadOf 80 = .ok (.isub, 1) := by decide +kernel
theorem dX4_spreadOf_81 : decode cX4_spreadOf 81 = .ok (.ireturn, 1) := by decide +kernel
theorem dX5_init_0 : decode cX5_init 0 = .ok (.aload_n 0, 1) := by decide +kernel
theorem dX5_init_1 : decode cX5_init 1 = .ok (.invokespecial 3, 3) := by decide +kernel
theorem dX5_init_4 : decode cX5_init 4 = .ok (.aload_n 0, 1) := by decide +kernel
theorem dX5_init_5 : decode cX5_init 5 = .ok (.getstatic 9, 3) := by decide +kernel
theorem dX5_init_8 : decode cX5_init 8 = .ok (.invokevirtual 13, 3) := by decide +kernel
theorem dX5_init_11 : decode cX5_init 11 = .ok (.checkcast 14, 3) := by decide +kernel
theorem dX5_init_14 : decode cX5_init 14 = .ok (.putfield 18, 3) := by decide +kernel
theorem dX5_init_17 : decode cX5_init 17 = .ok (.aload_n 0, 1) := by decide +kernel
theorem dX5_init_18 : decode cX5_init 18 = .ok (.new 23, 3) := by decide +kernel
theorem dX5_init_21 : decode cX5_init 21 = .ok (.dup, 1) := by decide +kernel
theorem dX5_init_22 : decode cX5_init 22 = .ok (.invokespecial 25, 3) := by decide +kernel
theorem dX5_init_25 : decode cX5_init 25 = .ok (.putfield 26, 3) := by decide +kernel
theorem dX5_init_28 : decode cX5_init 28 = .ok (.aload_n 0, 1) := by decide +kernel
theorem dX5_init_29 : decode cX5_init 29 = .ok (.new 30, 3) := by decide +kernel
theorem dX5_init_32 : decode cX5_init 32 = .ok (.dup, 1) := by decide +kernel
theorem dX5_init_33 : decode cX5_init 33 = .ok (.invokespecial 32, 3) := by decide +kernel
theorem dX5_init_36 : decode cX5_init 36 = .ok (.putfield 33, 3) := by decide +kernel
theorem dX5_init_39 : decode cX5_init 39 = .ok (.aload_n 0, 1) := by decide +kernel
theorem dX5_init_40 : decode cX5_init 40 = .ok (.iconst 0, 1) := by decide +kernel
theorem dX5_init_41 : decode cX5_init 41 = .ok (.putfield 37, 3) := by decide +kernel
theorem dX5_init_44 : decode cX5_init 44 = .ok (.aload_n 0, 1) := by decide +kernel
theorem dX5_init_45 : decode cX5_init 45 = .ok (.iconst (-1), 1) := by decide +kernel
theorem dX5_init_46 : decode cX5_init 46 = .ok (.putfield 41, 3) := by decide +kernel
theorem dX5_init_49 : decode cX5_init 49 = .ok (.aload_n 0, 1) := by decide +kernel
theorem dX5_init_50 : decode cX5_init 50 = .ok (.iconst 0, 1) := by decide +kernel
theorem dX5_init_51 : decode cX5_init 51 = .ok (.putfield 44, 3) := by decide +kernel
theorem dX5_init_54 : decode cX5_init 54 = .ok (.aload_n 0, 1) := by decide +kernel
theorem dX5_init_55 : decode cX5_init 55 = .ok (.iconst 0, 1) := by decide +kernel
theorem dX5_init_56 : decode cX5_init 56 = .ok (.putfield 47, 3) := by decide +kernel
theorem dX5_init_59 : decode cX5_init 59 = .ok (.aload_n 0, 1) := by decide +kernel
theorem dX5_init_60 : decode cX5_init 60 = .ok (.iconst 0, 1) := by decide +kernel
theorem dX5_init_61 : decode cX5_init 61 = .ok (.putfield 50, 3) := by decide +kernel
theorem dX5_init_64 : decode cX5_init 64 = .ok (.aload_n 0, 1) := by decide +kernel
theorem dX5_init_65 : decode cX5_init 65 = .ok (.iconst 0, 1) := by decide +kernel
theorem dX5_init_66 : decode cX5_init 66 = .ok (.putfield 53, 3) := by decide +kernel
theorem dX5_init_69 : decode cX5_init 69 = .ok (.return_, 1) := by decide +kernel
theorem dX5_copyFrom_0 : decode cX5_copyFrom 0 = .ok (.aload_n 1, 1) := by decide +kernel
theorem dX5_copyFrom_1 : decode cX5_copyFrom 1 = .ok (.getfield 18, 3) := by decide +kernel
theorem dX5_copyFrom_4 : decode cX5_copyFrom 4 = .ok (.aload_n 0, 1) := by decide +kernel
theorem dX5_copyFrom_5 : decode cX5_copyFrom 5 = .ok (.getfield 18, 3) := by decide +kernel
theorem dX5_copyFrom_8 : decode cX5_copyFrom 8 = .ok (.invokestatic 56, 3) := by decide +kernel
theorem dX5_copyFrom_11 : decode cX5_copyFrom 11 = .ok (.aload_n 0, 1) := by decide +kernel
theorem dX5_copyFrom_12 : decode cX5_copyFrom 12 = .ok (.getfield 26, 3) := by decide +kernel
theorem dX5_copyFrom_15 : decode cX5_copyFrom 15 = .ok (.aload_n 1, 1) := by decide +kernel
theorem dX5_copyFrom_16 : decode cX5_copyFrom 16 = .ok (.getfield 26, 3) := by decide +kernel
theorem dX5_copyFrom_19 : decode cX5_copyFrom 19 = .ok (.invokevirtual 60, 3) := by decide +kernel
theorem dX5_copyFrom_22 : decode cX5_copyFrom 22 = .ok (.aload_n 0, 1) := by decide +kernel
theorem dX5_copyFrom_23 : decode cX5_copyFrom 23 = .ok (.getfield 33, 3) := by decide +kernel
theorem dX5_copyFrom_26 : decode cX5_copyFrom 26 = .ok (.aload_n 1, 1) := by decide +kernel
theorem dX5_copyFrom_27 : decode cX5_copyFrom 27 = .ok (.getfield 33, 3) := by decide +kernel
theorem dX5_copyFrom_30 : decode cX5_copyFrom 30 = .ok (.invokevirtual 64, 3) := by decide +kernel
theorem dX5_copyFrom_33 : decode cX5_copyFrom 33 = .ok (.aload_n 0, 1) := by decide +kernel
theorem dX5_copyFrom_34 : decode cX5_copyFrom 34 = .ok (.aload_n 1, 1) := by decide +kernel
theorem dX5_copyFrom_35 : decode cX5_copyFrom 35 = .ok (.getfield 37, 3) := by decide +kernel
theorem dX5_copyFrom_38 : decode cX5_copyFrom 38 = .ok (.putfield 37, 3) := by decide +kernel
theorem dX5_copyFrom_41 : decode cX5_copyFrom 41 = .ok (.aload_n 0, 1) := by decide +kernel
theorem dX5_copyFrom_42 : decode cX5_copyFrom 42 = .ok (.aload_n 1, 1) := by decide +kernel
theorem dX5_copyFrom_43 : decode cX5_copyFrom 43 = .ok (.getfield 41, 3) := by decide +kernel
theorem dX5_copyFrom_46 : decode cX5_copyFrom 46 = .ok (.putfield 41, 3) := by decide +kernel
theorem dX5_copyFrom_49 : decode cX5_copyFrom 49 = .ok (.aload_n 0, 1) := by decide +kernel
theorem dX5_copyFrom_50 : decode cX5_copyFrom 50 = .ok (.aload_n 1, 1) := by decide +kernel
theorem dX5_copyFrom_51 : decode cX5_copyFrom 51 = .ok (.getfield 44, 3) := by decide +kernel
theorem dX5_copyFrom_54 : decode cX5_copyFrom 54 = .ok (.putfield 44, 3) := by decide +kernel
theorem dX5_copyFrom_57 : decode cX5_copyFrom 57 = .ok (.aload_n 0, 1) := by decide +kernel
theorem dX5_copyFrom_58 : decode cX5_copyFrom 58 = .ok (.aload_n 1, 1) := by decide +kernel
theorem dX5_copyFrom_59 : decode cX5_copyFrom 59 = .ok (.getfield 47, 3) := by decide +kernel
theorem dX5_copyFrom_62 : decode cX5_copyFrom 62 = .ok (.putfield 47, 3) := by decide +kernel
theorem dX5_copyFrom_65 : decode cX5_copyFrom 65 = .ok (.aload_n 0, 1) := by decide +kernel
theorem dX5_copyFrom_66 : decode cX5_copyFrom 66 = .ok (.aload_n 1, 1) := by decide +kernel
theorem dX5_copyFrom_67 : decode cX5_copyFrom 67 = .ok (.getfield 50, 3) := by decide +kernel
theorem dX5_copyFrom_70 : decode cX5_copyFrom 70 = .ok (.putfield 50, 3) := by decide +kernel
theorem dX5_copyFrom_73 : decode cX5_copyFrom 73 = .ok (.aload_n 0, 1) := by decide +kernel
theorem dX5_copyFrom_74 : decode cX5_copyFrom 74 = .ok (.aload_n 1, 1) := by decide +kernel
theorem dX5_copyFrom_75 : decode cX5_copyFrom 75 = .ok (.getfield 53, 3) := by decide +kernel
theorem dX5_copyFrom_78 : decode cX5_copyFrom 78 = .ok (.putfield 53, 3) := by decide +kernel
theorem dX5_copyFrom_81 : decode cX5_copyFrom 81 = .ok (.return_, 1) := by decide +kernel
theorem dX5_isStriking_0 : decode cX5_isStriking 0 = .ok (.aload_n 0, 1) := by decide +kernel
theorem dX5_isStriking_1 : decode cX5_isStriking 1 = .ok (.getfield 26, 3) := by decide +kernel
theorem dX5_isStriking_4 : decode cX5_isStriking 4 = .ok (.iload_n 1, 1) := by decide +kernel
theorem dX5_isStriking_5 : decode cX5_isStriking 5 = .ok (.invokevirtual 67, 3) := by decide +kernel
theorem dX5_isStriking_8 : decode cX5_isStriking 8 = .ok (.ifCond .ne 34, 3) := by decide +kernel
theorem dX5_isStriking_11 : decode cX5_isStriking 11 = .ok (.aload_n 0, 1) := by decide +kernel
theorem dX5_isStriking_12 : decode cX5_isStriking 12 = .ok (.getfield 26, 3) := by decide +kernel
theorem dX5_isStriking_15 : decode cX5_isStriking 15 = .ok (.getfield 71, 3) := by decide +kernel
theorem dX5_isStriking_18 : decode cX5_isStriking 18 = .ok (.iload_n 1, 1) := by decide +kernel
theorem dX5_isStriking_19 : decode cX5_isStriking 19 = .ok (.iaload, 1) := by decide +kernel
theorem dX5_isStriking_20 : decode cX5_isStriking 20 = .ok (.aload_n 0, 1) := by decide +kernel
theorem dX5_isStriking_21 : decode cX5_isStriking 21 = .ok (.getfield 26, 3) := by decide +kernel
theorem dX5_isStriking_24 : decode cX5_isStriking 24 = .ok (.iconst (-1), 1) := by decide +kernel
theorem dX5_isStriking_25 : decode cX5_isStriking 25 = .ok (.invokevirtual 74, 3) := by decide +kernel
theorem dX5_isStriking_28 : decode cX5_isStriking 28 = .ok (.isub, 1) := by decide +kernel
theorem dX5_isStriking_29 : decode cX5_isStriking 29 = .ok (.aload_n 0, 1) := by decide +kernel
theorem dX5_isStriking_30 : decode cX5_isStriking 30 = .ok (.getfield 18, 3) := by decide +kernel
theorem dX5_isStriking_33 : decode cX5_isStriking 33 = .ok (.iconst 0, 1) := by decide +kernel
theorem dX5_isStriking_34 : decode cX5_isStriking 34 = .ok (.iaload, 1) := by decide +kernel
theorem dX5_isStriking_35 : decode cX5_isStriking 35 = .ok (.if_icmp .le 7, 3) := by decide +kernel
theorem dX5_isStriking_38 : decode cX5_isStriking 38 = .ok (.iconst 1, 1) := by decide +kernel
theorem dX5_isStriking_39 : decode cX5_isStriking 39 = .ok (.goto 4, 3) := by decide +kernel
theorem dX5_isStriking_42 : decode cX5_isStriking 42 = .ok (.iconst 0, 1) := by decide +kernel
theorem dX5_isStriking_43 : decode cX5_isStriking 43 = .ok (.ireturn, 1) := by decide +kernel
theorem dX5_isClogged_0 : decode cX5_isClogged 0 = .ok (.aload_n 0, 1) := by decide +kernel
theorem dX5_isClogged_1 : decode cX5_isClogged 1 = .ok (.getfield 26, 3) := by decide +kernel
theorem dX5_isClogged_4 : decode cX5_isClogged 4 = .ok (.getfield 78, 3) := by decide +kernel
theorem dX5_isClogged_7 : decode cX5_isClogged 7 = .ok (.iload_n 1, 1) := by decide +kernel
theorem dX5_isClogged_8 : decode cX5_isClogged 8 = .ok (.iaload, 1) := by decide +kernel
theorem dX5_isClogged_9 : decode cX5_isClogged 9 = .ok (.aload_n 0, 1) := by decide +kernel
theorem dX5_isClogged_10 : decode cX5_isClogged 10 = .ok (.getfield 18, 3) := by decide +kernel
theorem dX5_isClogged_13 : decode cX5_isClogged 13 = .ok (.iconst 1, 1) := by decide +kernel
theorem dX5_isClogged_14 : decode cX5_isClogged 14 = .ok (.iaload, 1) := by decide +kernel
theorem dX5_isClogged_15 : decode cX5_isClogged 15 = .ok (.if_icmp .le 7, 3) := by decide +kernel
theorem dX5_isClogged_18 : decode cX5_isClogged 18 = .ok (.iconst 1, 1) := by decide +kernel
theorem dX5_isClogged_19 : decode cX5_isClogged 19 = .ok (.goto 4, 3) := by decide +kernel
theorem dX5_isClogged_22 : decode cX5_isClogged 22 = .ok (.iconst 0, 1) := by decide +kernel
theorem dX5_isClogged_23 : decode cX5_isClogged 23 = .ok (.ireturn, 1) := by decide +kernel
theorem dX5_isWet_0 : decode cX5_isWet 0 = .ok (.aload_n 0, 1) := by decide +kernel
theorem dX5_isWet_1 : decode cX5_isWet 1 = .ok (.getfield 33, 3) := by decide +kernel
theorem dX5_isWet_4 : decode cX5_isWet 4 = .ok (.iload_n 1, 1) := by decide +kernel
theorem dX5_isWet_5 : decode cX5_isWet 5 = .ok (.invokevirtual 81, 3) := by decide +kernel
theorem dX5_isWet_8 : decode cX5_isWet 8 = .ok (.ifCond .eq 23, 3) := by decide +kernel
theorem dX5_isWet_11 : decode cX5_isWet 11 = .ok (.aload_n 0, 1) := by decide +kernel
theorem dX5_isWet_12 : decode cX5_isWet 12 = .ok (.getfield 37, 3) := by decide +kernel
theorem dX5_isWet_15 : decode cX5_isWet 15 = .ok (.aload_n 0, 1) := by decide +kernel
theorem dX5_isWet_16 : decode cX5_isWet 16 = .ok (.getfield 33, 3) := by decide +kernel
theorem dX5_isWet_19 : decode cX5_isWet 19 = .ok (.getfield 84, 3) := by decide +kernel
theorem dX5_isWet_22 : decode cX5_isWet 22 = .ok (.iload_n 1, 1) := by decide +kernel
theorem dX5_isWet_23 : decode cX5_isWet 23 = .ok (.iaload, 1) := by decide +kernel
theorem dX5_isWet_24 : decode cX5_isWet 24 = .ok (.if_icmp .ge 7, 3) := by decide +kernel
theorem dX5_isWet_27 : decode cX5_isWet 27 = .ok (.iconst 1, 1) := by decide +kernel
theorem dX5_isWet_28 : decode cX5_isWet 28 = .ok (.goto 4, 3) := by decide +kernel
theorem dX5_isWet_31 : decode cX5_isWet 31 = .ok (.iconst 0, 1) := by decide +kernel
theorem dX5_isWet_32 : decode cX5_isWet 32 = .ok (.ireturn, 1) := by decide +kernel
theorem dX5_howManyWet_0 : decode cX5_howManyWet 0 = .ok (.iconst 0, 1) := by decide +kernel
theorem dX5_howManyWet_1 : decode cX5_howManyWet 1 = .ok (.istore_n 1, 1) := by decide +kernel
theorem dX5_howManyWet_2 : decode cX5_howManyWet 2 = .ok (.iconst 0, 1) := by decide +kernel
theorem dX5_howManyWet_3 : decode cX5_howManyWet 3 = .ok (.istore_n 2, 1) := by decide +kernel
theorem dX5_howManyWet_4 : decode cX5_howManyWet 4 = .ok (.iload_n 2, 1) := by decide +kernel
theorem dX5_howManyWet_5 : decode cX5_howManyWet 5 = .ok (.aload_n 0, 1) := by decide +kernel
theorem dX5_howManyWet_6 : decode cX5_howManyWet 6 = .ok (.getfield 33, 3) := by decide +kernel
theorem dX5_howManyWet_9 : decode cX5_howManyWet 9 = .ok (.getfield 87, 3) := by decide +kernel
theorem dX5_howManyWet_12 : decode cX5_howManyWet 12 = .ok (.if_icmp .ge 20, 3) := by decide +kernel
theorem dX5_howManyWet_15 : decode cX5_howManyWet 15 = .ok (.iload_n 1, 1) := by decide +kernel
theorem dX5_howManyWet_16 : decode cX5_howManyWet 16 = .ok (.aload_n 0, 1) := by decide +kernel
theorem dX5_howManyWet_17 : decode cX5_howManyWet 17 = .ok (.iload_n 2, 1) := by decide +kernel
theorem dX5_howManyWet_18 : decode cX5_howManyWet 18 = .ok (.invokevirtual 90, 3) := by decide +kernel
theorem dX5_howManyWet_21 : decode cX5_howManyWet 21 = .ok (.invokestatic 93, 3) := by decide +kernel
theorem dX5_howManyWet_24 : decode cX5_howManyWet 24 = .ok (.iadd, 1) := by decide +kernel
theorem dX5_howManyWet_25 : decode cX5_howManyWet 25 = .ok (.istore_n 1, 1) := by decide +kernel
theorem dX5_howManyWet_26 : decode cX5_howManyWet 26 = .ok (.iinc 2 1, 3) := by decide +kernel
theorem dX5_howManyWet_29 : decode cX5_howManyWet 29 = .ok (.goto (-25), 3) := by decide +kernel
theorem dX5_howManyWet_32 : decode cX5_howManyWet 32 = .ok (.iload_n 1, 1) := by decide +kernel
theorem dX5_howManyWet_33 : decode cX5_howManyWet 33 = .ok (.ireturn, 1) := by decide +kernel
theorem dX5_shadeOf_0 : decode cX5_shadeOf 0 = .ok (.aload_n 0, 1) := by decide +kernel
theorem dX5_shadeOf_1 : decode cX5_shadeOf 1 = .ok (.getfield 33, 3) := by decide +kernel
theorem dX5_shadeOf_4 : decode cX5_shadeOf 4 = .ok (.getfield 97, 3) := by decide +kernel
theorem dX5_shadeOf_7 : decode cX5_shadeOf 7 = .ok (.iload_n 1, 1) := by decide +kernel
theorem dX5_shadeOf_8 : decode cX5_shadeOf 8 = .ok (.iaload, 1) := by decide +kernel
theorem dX5_shadeOf_9 : decode cX5_shadeOf 9 = .ok (.istore_n 2, 1) := by decide +kernel
theorem dX5_shadeOf_10 : decode cX5_shadeOf 10 = .ok (.aload_n 0, 1) := by decide +kernel
theorem dX5_shadeOf_11 : decode cX5_shadeOf 11 = .ok (.getfield 26, 3) := by decide +kernel
theorem dX5_shadeOf_14 : decode cX5_shadeOf 14 = .ok (.iload_n 2, 1) := by decide +kernel
theorem dX5_shadeOf_15 : decode cX5_shadeOf 15 = .ok (.invokevirtual 100, 3) := by decide +kernel
theorem dX5_shadeOf_18 : decode cX5_shadeOf 18 = .ok (.ifCond .eq 15, 3) := by decide +kernel
theorem dX5_shadeOf_21 : decode cX5_shadeOf 21 = .ok (.aload_n 0, 1) := by decide +kernel
theorem dX5_shadeOf_22 : decode cX5_shadeOf 22 = .ok (.getfield 26, 3) := by decide +kernel
theorem dX5_shadeOf_25 : decode cX5_shadeOf 25 = .ok (.getfield 103, 3) := by decide +kernel
theorem dX5_shadeOf_28 : decode cX5_shadeOf 28 = .ok (.iload_n 2, 1) := by decide +kernel
theorem dX5_shadeOf_29 : decode cX5_shadeOf 29 = .ok (.iaload, 1) := by decide +kernel
theorem dX5_shadeOf_30 : decode cX5_shadeOf 30 = .ok (.goto 4, 3) := by decide +kernel
theorem dX5_shadeOf_33 : decode cX5_shadeOf 33 = .ok (.iconst 0, 1) := by decide +kernel
theorem dX5_shadeOf_34 : decode cX5_shadeOf 34 = .ok (.istore_n 3, 1) := by decide +kernel
theorem dX5_shadeOf_35 : decode cX5_shadeOf 35 = .ok (.iload_n 3, 1) := by decide +kernel
theorem dX5_shadeOf_36 : decode cX5_shadeOf 36 = .ok (.ifCond .ne 7, 3) := by decide +kernel
theorem dX5_shadeOf_39 : decode cX5_shadeOf 39 = .ok (.fconst 0, 1) := by decide +kernel
theorem dX5_shadeOf_40 : decode cX5_shadeOf 40 = .ok (.goto 16, 3) := by decide +kernel
theorem dX5_shadeOf_43 : decode cX5_shadeOf 43 = .ok (.aload_n 0, 1) := by decide +kernel
theorem dX5_shadeOf_44 : decode cX5_shadeOf 44 = .ok (.getfield 33, 3) := by decide +kernel
theorem dX5_shadeOf_47 : decode cX5_shadeOf 47 = .ok (.getfield 106, 3) := by decide +kernel
theorem dX5_shadeOf_50 : decode cX5_shadeOf 50 = .ok (.iload_n 1, 1) := by decide +kernel
theorem dX5_shadeOf_51 : decode cX5_shadeOf 51 = .ok (.iaload, 1) := by decide +kernel
theorem dX5_shadeOf_52 : decode cX5_shadeOf 52 = .ok (.i2f, 1) := by decide +kernel
theorem dX5_shadeOf_53 : decode cX5_shadeOf 53 = .ok (.iload_n 3, 1) := by decide +kernel
theorem dX5_shadeOf_54 : decode cX5_shadeOf 54 = .ok (.i2f, 1) := by decide +kernel
theorem dX5_shadeOf_55 : decode cX5_shadeOf 55 = .ok (.fdiv, 1) := by decide +kernel
theorem dX5_shadeOf_56 : decode cX5_shadeOf 56 = .ok (.freturn, 1) := by decide +kernel
theorem dX5_inkFor_0 : decode cX5_inkFor 0 = .ok (.aload_n 0, 1) := by decide +kernel
theorem dX5_inkFor_1 : decode cX5_inkFor 1 = .ok (.getfield 26, 3) := by decide +kernel
theorem dX5_inkFor_4 : decode cX5_inkFor 4 = .ok (.getfield 109, 3) := by decide +kernel
theorem dX5_inkFor_7 : decode cX5_inkFor 7 = .ok (.iload_n 1, 1) := by decide +kernel
theorem dX5_inkFor_8 : decode cX5_inkFor 8 = .ok (.iaload, 1) := by decide +kernel
theorem dX5_inkFor_9 : decode cX5_inkFor 9 = .ok (.iconst 1, 1) := by decide +kernel
theorem dX5_inkFor_10 : decode cX5_inkFor 10 = .ok (.if_icmp .ne 17, 3) := by decide +kernel
theorem dX5_inkFor_13 : decode cX5_inkFor 13 = .ok (.iconst 2, 1) := by decide +kernel
theorem dX5_inkFor_14 : decode cX5_inkFor 14 = .ok (.aload_n 0, 1) := by decide +kernel
theorem dX5_inkFor_15 : decode cX5_inkFor 15 = .ok (.getfield 33, 3) := by decide +kernel
theorem dX5_inkFor_18 : decode cX5_inkFor 18 = .ok (.getfield 112, 3) := by decide +kernel
theorem dX5_inkFor_21 : decode cX5_inkFor 21 = .ok (.iload_n 2, 1) := by decide +kernel
theorem dX5_inkFor_22 : decode cX5_inkFor 22 = .ok (.iaload, 1) := by decide +kernel
theorem dX5_inkFor_23 : decode cX5_inkFor 23 = .ok (.imul, 1) := by decide +kernel
theorem dX5_inkFor_24 : decode cX5_inkFor 24 = .ok (.goto 12, 3) := by decide +kernel
theorem dX5_inkFor_27 : decode cX5_inkFor 27 = .ok (.aload_n 0, 1) := by decide +kernel
theorem dX5_inkFor_28 : decode cX5_inkFor 28 = .ok (.getfield 33, 3) := by decide +kernel
theorem dX5_inkFor_31 : decode cX5_inkFor 31 = .ok (.getfield 112, 3) := by decide +kernel
theorem dX5_inkFor_34 : decode cX5_inkFor 34 = .ok (.iload_n 2, 1) := by decide +kernel
theorem dX5_inkFor_35 : decode cX5_inkFor 35 = .ok (.iaload, 1) := by decide +kernel
theorem dX5_inkFor_36 : decode cX5_inkFor 36 = .ok (.ireturn, 1) := by decide +kernel
theorem dX5_travelTo_0 : decode cX5_travelTo 0 = .ok (.aload_n 0, 1) := by decide +kernel
theorem dX5_travelTo_1 : decode cX5_travelTo 1 = .ok (.getfield 44, 3) := by decide +kernel
theorem dX5_travelTo_4 : decode cX5_travelTo 4 = .ok (.aload_n 0, 1) := by decide +kernel
theorem dX5_travelTo_5 : decode cX5_travelTo 5 = .ok (.getfield 47, 3) := by decide +kernel
theorem dX5_travelTo_8 : decode cX5_travelTo 8 = .ok (.aload_n 0, 1) := by decide +kernel
theorem dX5_travelTo_9 : decode cX5_travelTo 9 = .ok (.getfield 33, 3) := by decide +kernel
theorem dX5_travelTo_12 : decode cX5_travelTo 12 = .ok (.iload_n 1, 1) := by decide +kernel
theorem dX5_travelTo_13 : decode cX5_travelTo 13 = .ok (.iload_n 2, 1) := by decide +kernel
theorem dX5_travelTo_14 : decode cX5_travelTo 14 = .ok (.invokevirtual 115, 3) := by decide +kernel
theorem dX5_travelTo_17 : decode cX5_travelTo 17 = .ok (.aload_n 0, 1) := by decide +kernel
theorem dX5_travelTo_18 : decode cX5_travelTo 18 = .ok (.getfield 33, 3) := by decide +kernel
theorem dX5_travelTo_21 : decode cX5_travelTo 21 = .ok (.iload_n 1, 1) := by decide +kernel
theorem dX5_travelTo_22 : decode cX5_travelTo 22 = .ok (.iload_n 2, 1) := by decide +kernel
theorem dX5_travelTo_23 : decode cX5_travelTo 23 = .ok (.invokevirtual 119, 3) := by decide +kernel
theorem dX5_travelTo_26 : decode cX5_travelTo 26 = .ok (.invokestatic 122, 3) := by decide +kernel
theorem dX5_travelTo_29 : decode cX5_travelTo 29 = .ok (.ireturn, 1) := by decide +kernel
theorem dX5_dryTimeFor_0 : decode cX5_dryTimeFor 0 = .ok (.iconst 0, 1) := by decide +kernel
theorem dX5_dryTimeFor_1 : decode cX5_dryTimeFor 1 = .ok (.istore_n 2, 1) := by decide +kernel
theorem dX5_dryTimeFor_2 : decode cX5_dryTimeFor 2 = .ok (.iconst 0, 1) := by decide +kernel
theorem dX5_dryTimeFor_3 : decode cX5_dryTimeFor 3 = .ok (.istore_n 3, 1) := by decide +kernel
theorem dX5_dryTimeFor_4 : decode cX5_dryTimeFor 4 = .ok (.iload_n 3, 1) := by decide +kernel
theorem dX5_dryTimeFor_5 : decode cX5_dryTimeFor 5 = .ok (.aload_n 0, 1) := by decide +kernel
theorem dX5_dryTimeFor_6 : decode cX5_dryTimeFor 6 = .ok (.getfield 33, 3) := by decide +kernel
theorem dX5_dryTimeFor_9 : decode cX5_dryTimeFor 9 = .ok (.getfield 87, 3) := by decide +kernel
theorem dX5_dryTimeFor_12 : decode cX5_dryTimeFor 12 = .ok (.if_icmp .ge 62, 3) := by decide +kernel
theorem dX5_dryTimeFor_15 : decode cX5_dryTimeFor 15 = .ok (.aload_n 0, 1) := by decide +kernel
theorem dX5_dryTimeFor_16 : decode cX5_dryTimeFor 16 = .ok (.getfield 33, 3) := by decide +kernel
theorem dX5_dryTimeFor_19 : decode cX5_dryTimeFor 19 = .ok (.iload_n 3, 1) := by decide +kernel
theorem dX5_dryTimeFor_20 : decode cX5_dryTimeFor 20 = .ok (.invokevirtual 81, 3) := by decide +kernel
theorem dX5_dryTimeFor_23 : decode cX5_dryTimeFor 23 = .ok (.ifCond .eq 45, 3) := by decide +kernel
theorem dX5_dryTimeFor_26 : decode cX5_dryTimeFor 26 = .ok (.aload_n 0, 1) := by decide +kernel
theorem dX5_dryTimeFor_27 : decode cX5_dryTimeFor 27 = .ok (.getfield 33, 3) := by decide +kernel
theorem dX5_dryTimeFor_30 : decode cX5_dryTimeFor 30 = .ok (.getfield 97, 3) := by decide +kernel
theorem dX5_dryTimeFor_33 : decode cX5_dryTimeFor 33 = .ok (.iload_n 3, 1) := by decide +kernel
theorem dX5_dryTimeFor_34 : decode cX5_dryTimeFor 34 = .ok (.iaload, 1) := by decide +kernel
theorem dX5_dryTimeFor_35 : decode cX5_dryTimeFor 35 = .ok (.aload_n 0, 1) := by decide +kernel
theorem dX5_dryTimeFor_36 : decode cX5_dryTimeFor 36 = .ok (.getfield 41, 3) := by decide +kernel
theorem dX5_dryTimeFor_39 : decode cX5_dryTimeFor 39 = .ok (.if_icmp .eq 29, 3) := by decide +kernel
theorem dX5_dryTimeFor_42 : decode cX5_dryTimeFor 42 = .ok (.aload_n 0, 1) := by decide +kernel
theorem dX5_dryTimeFor_43 : decode cX5_dryTimeFor 43 = .ok (.getfield 33, 3) := by decide +kernel
theorem dX5_dryTimeFor_46 : decode cX5_dryTimeFor 46 = .ok (.iload_n 1, 1) := by decide +kernel
theorem dX5_dryTimeFor_47 : decode cX5_dryTimeFor 47 = .ok (.iload_n 3, 1) := by decide +kernel
theorem dX5_dryTimeFor_48 : decode cX5_dryTimeFor 48 = .ok (.invokevirtual 126, 3) := by decide +kernel
theorem dX5_dryTimeFor_51 : decode cX5_dryTimeFor 51 = .ok (.ifCond .eq 17, 3) := by decide +kernel
theorem dX5_dryTimeFor_54 : decode cX5_dryTimeFor 54 = .ok (.iload_n 2, 1) := by decide +kernel
theorem dX5_dryTimeFor_55 : decode cX5_dryTimeFor 55 = .ok (.aload_n 0, 1) := by decide +kernel
theorem dX5_dryTimeFor_56 : decode cX5_dryTimeFor 56 = .ok (.getfield 33, 3) := by decide +kernel
theorem dX5_dryTimeFor_59 : decode cX5_dryTimeFor 59 = .ok (.getfield 84, 3) := by decide +kernel
theorem dX5_dryTimeFor_62 : decode cX5_dryTimeFor 62 = .ok (.iload_n 3, 1) := by decide +kernel
theorem dX5_dryTimeFor_63 : decode cX5_dryTimeFor 63 = .ok (.iaload, 1) := by decide +kernel
theorem dX5_dryTimeFor_64 : decode cX5_dryTimeFor 64 = .ok (.invokestatic 130, 3) := by decide +kernel
theorem dX5_dryTimeFor_67 : decode cX5_dryTimeFor 67 = .ok (.istore_n 2, 1) := by decide +kernel
theorem dX5_dryTimeFor_68 : decode cX5_dryTimeFor 68 = .ok (.iinc 3 1, 3) := by decide +kernel
theorem dX5_dryTimeFor_71 : decode cX5_dryTimeFor 71 = .ok (.goto (-67), 3) := by decide +kernel
theorem dX5_dryTimeFor_74 : decode cX5_dryTimeFor 74 = .ok (.iload_n 2, 1) := by decide +kernel
theorem dX5_dryTimeFor_75 : decode cX5_dryTimeFor 75 = .ok (.ireturn, 1) := by decide +kernel
theorem dX5_reasonAgainst_0 : decode cX5_reasonAgainst 0 = .ok (.aload_n 0, 1) := by decide +kernel
theorem dX5_reasonAgainst_1 : decode cX5_reasonAgainst 1 = .ok (.getfield 26, 3) := by decide +kernel
theorem dX5_reasonAgainst_4 : decode cX5_reasonAgainst 4 = .ok (.aload_n 0, 1) := by decide +kernel
theorem dX5_reasonAgainst_5 : decode cX5_reasonAgainst 5 = .ok (.getfield 41, 3) := by decide +kernel
theorem dX5_reasonAgainst_8 : decode cX5_reasonAgainst 8 = .ok (.invokevirtual 100, 3) := by decide +kernel
theorem dX5_reasonAgainst_11 : decode cX5_reasonAgainst 11 = .ok (.ifCond .ne 5, 3) := by decide +kernel
theorem dX5_reasonAgainst_14 : decode cX5_reasonAgainst 14 = .ok (.iconst 1, 1) := by decide +kernel
theorem dX5_reasonAgainst_15 : decode cX5_reasonAgainst 15 = .ok (.ireturn, 1) := by decide +kernel
theorem dX5_reasonAgainst_16 : decode cX5_reasonAgainst 16 = .ok (.aload_n 0, 1) := by decide +kernel
theorem dX5_reasonAgainst_17 : decode cX5_reasonAgainst 17 = .ok (.getfield 33, 3) := by decide +kernel
theorem dX5_reasonAgainst_20 : decode cX5_reasonAgainst 20 = .ok (.iload_n 1, 1) := by decide +kernel
theorem dX5_reasonAgainst_21 : decode cX5_reasonAgainst 21 = .ok (.invokevirtual 81, 3) := by decide +kernel
theorem dX5_reasonAgainst_24 : decode cX5_reasonAgainst 24 = .ok (.ifCond .eq 5, 3) := by decide +kernel
theorem dX5_reasonAgainst_27 : decode cX5_reasonAgainst 27 = .ok (.iconst 2, 1) := by decide +kernel
theorem dX5_reasonAgainst_28 : decode cX5_reasonAgainst 28 = .ok (.ireturn, 1) := by decide +kernel
theorem dX5_reasonAgainst_29 : decode cX5_reasonAgainst 29 = .ok (.aload_n 0, 1) := by decide +kernel
theorem dX5_reasonAgainst_30 : decode cX5_reasonAgainst 30 = .ok (.aload_n 0, 1) := by decide +kernel
theorem dX5_reasonAgainst_31 : decode cX5_reasonAgainst 31 = .ok (.getfield 41, 3) := by decide +kernel
theorem dX5_reasonAgainst_34 : decode cX5_reasonAgainst 34 = .ok (.invokevirtual 135, 3) := by decide +kernel
theorem dX5_reasonAgainst_37 : decode cX5_reasonAgainst 37 = .ok (.ifCond .eq 5, 3) := by decide +kernel
theorem dX5_reasonAgainst_40 : decode cX5_reasonAgainst 40 = .ok (.iconst 3, 1) := by decide +kernel
theorem dX5_reasonAgainst_41 : decode cX5_reasonAgainst 41 = .ok (.ireturn, 1) := by decide +kernel
theorem dX5_reasonAgainst_42 : decode cX5_reasonAgainst 42 = .ok (.aload_n 0, 1) := by decide +kernel
theorem dX5_reasonAgainst_43 : decode cX5_reasonAgainst 43 = .ok (.getfield 26, 3) := by decide +kernel
theorem dX5_reasonAgainst_46 : decode cX5_reasonAgainst 46 = .ok (.getfield 138, 3) := by decide +kernel
theorem dX5_reasonAgainst_49 : decode cX5_reasonAgainst 49 = .ok (.aload_n 0, 1) := by decide +kernel
theorem dX5_reasonAgainst_50 : decode cX5_reasonAgainst 50 = .ok (.getfield 41, 3) := by decide +kernel
theorem dX5_reasonAgainst_53 : decode cX5_reasonAgainst 53 = .ok (.iaload, 1) := by decide +kernel
theorem dX5_reasonAgainst_54 : decode cX5_reasonAgainst 54 = .ok (.aload_n 0, 1) := by decide +kernel
theorem dX5_reasonAgainst_55 : decode cX5_reasonAgainst 55 = .ok (.aload_n 0, 1) := by decide +kernel
theorem dX5_reasonAgainst_56 : decode cX5_reasonAgainst 56 = .ok (.getfield 41, 3) := by decide +kernel
theorem dX5_reasonAgainst_59 : decode cX5_reasonAgainst 59 = .ok (.iload_n 1, 1) := by decide +kernel
theorem dX5_reasonAgainst_60 : decode cX5_reasonAgainst 60 = .ok (.invokevirtual 141, 3) := by decide +kernel
theorem dX5_reasonAgainst_63 : decode cX5_reasonAgainst 63 = .ok (.if_icmp .ge 5, 3) := by decide +kernel
theorem dX5_reasonAgainst_66 : decode cX5_reasonAgainst 66 = .ok (.iconst 4, 1) := by decide +kernel
theorem dX5_reasonAgainst_67 : decode cX5_reasonAgainst 67 = .ok (.ireturn, 1) := by decide +kernel
theorem dX5_reasonAgainst_68 : decode cX5_reasonAgainst 68 = .ok (.iload_n 3, 1) := by decide +kernel
theorem dX5_reasonAgainst_69 : decode cX5_reasonAgainst 69 = .ok (.aload_n 0, 1) := by decide +kernel
theorem dX5_reasonAgainst_70 : decode cX5_reasonAgainst 70 = .ok (.iload_n 1, 1) := by decide +kernel
theorem dX5_reasonAgainst_71 : decode cX5_reasonAgainst 71 = .ok (.iload_n 2, 1) := by decide +kernel
theorem dX5_reasonAgainst_72 : decode cX5_reasonAgainst 72 = .ok (.invokevirtual 144, 3) := by decide +kernel
theorem dX5_reasonAgainst_75 : decode cX5_reasonAgainst 75 = .ok (.iadd, 1) := by decide +kernel
theorem dX5_reasonAgainst_76 : decode cX5_reasonAgainst 76 = .ok (.istore 4, 2) := by decide +kernel
theorem dX5_reasonAgainst_78 : decode cX5_reasonAgainst 78 = .ok (.aload_n 0, 1) := by decide +kernel
theorem dX5_reasonAgainst_79 : decode cX5_reasonAgainst 79 = .ok (.getfield 26, 3) := by decide +kernel
theorem dX5_reasonAgainst_82 : decode cX5_reasonAgainst 82 = .ok (.getfield 78, 3) := by decide +kernel
theorem dX5_reasonAgainst_85 : decode cX5_reasonAgainst 85 = .ok (.aload_n 0, 1) := by decide +kernel
theorem dX5_reasonAgainst_86 : decode cX5_reasonAgainst 86 = .ok (.getfield 41, 3) := by decide +kernel
theorem dX5_reasonAgainst_89 : decode cX5_reasonAgainst 89 = .ok (.iaload, 1) := by decide +kernel
theorem dX5_reasonAgainst_90 : decode cX5_reasonAgainst 90 = .ok (.iload 4, 2) := by decide +kernel
theorem dX5_reasonAgainst_92 : decode cX5_reasonAgainst 92 = .ok (.iadd, 1) := by decide +kernel
theorem dX5_reasonAgainst_93 : decode cX5_reasonAgainst 93 = .ok (.aload_n 0, 1) := by decide +kernel
theorem dX5_reasonAgainst_94 : decode cX5_reasonAgainst 94 = .ok (.getfield 18, 3) := by decide +kernel
theorem dX5_reasonAgainst_97 : decode cX5_reasonAgainst 97 = .ok (.iconst 1, 1) := by decide +kernel
theorem dX5_reasonAgainst_98 : decode cX5_reasonAgainst 98 = .ok (.iaload, 1) := by decide +kernel
theorem dX5_reasonAgainst_99 : decode cX5_reasonAgainst 99 = .ok (.if_icmp .le 5, 3) := by decide +kernel
theorem dX5_reasonAgainst_102 : decode cX5_reasonAgainst 102 = .ok (.iconst 5, 1) := by decide +kernel
theorem dX5_reasonAgainst_103 : decode cX5_reasonAgainst 103 = .ok (.ireturn, 1) := by decide +kernel
theorem dX5_reasonAgainst_104 : decode cX5_reasonAgainst 104 = .ok (.aload_n 0, 1) := by decide +kernel
theorem dX5_reasonAgainst_105 : decode cX5_reasonAgainst 105 = .ok (.getfield 37, 3) := by decide +kernel
theorem dX5_reasonAgainst_108 : decode cX5_reasonAgainst 108 = .ok (.iload 4, 2) := by decide +kernel
theorem dX5_reasonAgainst_110 : decode cX5_reasonAgainst 110 = .ok (.iadd, 1) := by decide +kernel
theorem dX5_reasonAgainst_111 : decode cX5_reasonAgainst 111 = .ok (.aload_n 0, 1) := by decide +kernel
theorem dX5_reasonAgainst_112 : decode cX5_reasonAgainst 112 = .ok (.iload_n 1, 1) := by decide +kernel
theorem dX5_reasonAgainst_113 : decode cX5_reasonAgainst 113 = .ok (.invokevirtual 147, 3) := by decide +kernel
theorem dX5_reasonAgainst_116 : decode cX5_reasonAgainst 116 = .ok (.if_icmp .ge 6, 3) := by decide +kernel
theorem dX5_reasonAgainst_119 : decode cX5_reasonAgainst 119 = .ok (.bipush 6, 2) := by decide +kernel
theorem dX5_reasonAgainst_121 : decode cX5_reasonAgainst 121 = .ok (.ireturn, 1) := by decide +kernel
theorem dX5_reasonAgainst_122 : decode cX5_reasonAgainst 122 = .ok (.aload_n 0, 1) := by decide +kernel
theorem dX5_reasonAgainst_123 : decode cX5_reasonAgainst 123 = .ok (.getfield 37, 3) := by decide +kernel
theorem dX5_reasonAgainst_126 : decode cX5_reasonAgainst 126 = .ok (.iload 4, 2) := by decide +kernel
theorem dX5_reasonAgainst_128 : decode cX5_reasonAgainst 128 = .ok (.iadd, 1) := by decide +kernel
theorem dX5_reasonAgainst_129 : decode cX5_reasonAgainst 129 = .ok (.aload_n 0, 1) := by decide +kernel
theorem dX5_reasonAgainst_130 : decode cX5_reasonAgainst 130 = .ok (.getfield 33, 3) := by decide +kernel
theorem dX5_reasonAgainst_133 : decode cX5_reasonAgainst 133 = .ok (.getfield 112, 3) := by decide +kernel
theorem dX5_reasonAgainst_136 : decode cX5_reasonAgainst 136 = .ok (.iload_n 1, 1) := by decide +kernel
theorem dX5_reasonAgainst_137 : decode cX5_reasonAgainst 137 = .ok (.iaload, 1) := by decide +kernel
theorem dX5_reasonAgainst_138 : decode cX5_reasonAgainst 138 = .ok (.iadd, 1) := by decide +kernel
theorem dX5_reasonAgainst_139 : decode cX5_reasonAgainst 139 = .ok (.ldc 150, 2) := by decide +kernel
theorem dX5_reasonAgainst_141 : decode cX5_reasonAgainst 141 = .ok (.if_icmp .le 6, 3) := by decide +kernel
theorem dX5_reasonAgainst_144 : decode cX5_reasonAgainst 144 = .ok (.bipush 7, 2) := by decide +kernel
theorem dX5_reasonAgainst_146 : decode cX5_reasonAgainst 146 = .ok (.ireturn, 1) := by decide +kernel
theorem dX5_reasonAgainst_147 : decode cX5_reasonAgainst 147 = .ok (.iconst 0, 1) := by decide +kernel
theorem dX5_reasonAgainst_148 : decode cX5_reasonAgainst 148 = .ok (.ireturn, 1) := by decide +kernel
theorem dX5_drawByHand_0 : decode cX5_drawByHand 0 = .ok (.aload_n 0, 1) := by decide +kernel
theorem dX5_drawByHand_1 : decode cX5_drawByHand 1 = .ok (.iload_n 1, 1) := by decide +kernel
theorem dX5_drawByHand_2 : decode cX5_drawByHand 2 = .ok (.iload_n 2, 1) := by decide +kernel
theorem dX5_drawByHand_3 : decode cX5_drawByHand 3 = .ok (.invokevirtual 144, 3) := by decide +kernel
theorem dX5_drawByHand_6 : decode cX5_drawByHand 6 = .ok (.istore_n 3, 1) := by decide +kernel
theorem dX5_drawByHand_7 : decode cX5_drawByHand 7 = .ok (.aload_n 0, 1) := by decide +kernel
theorem dX5_drawByHand_8 : decode cX5_drawByHand 8 = .ok (.getfield 33, 3) := by decide +kernel
theorem dX5_drawByHand_11 : decode cX5_drawByHand 11 = .ok (.getfield 112, 3) := by decide +kernel
theorem dX5_drawByHand_14 : decode cX5_drawByHand 14 = .ok (.iload_n 1, 1) := by decide +kernel
theorem dX5_drawByHand_15 : decode cX5_drawByHand 15 = .ok (.iaload, 1) := by decide +kernel
theorem dX5_drawByHand_16 : decode cX5_drawByHand 16 = .ok (.istore 4, 2) := by decide +kernel
theorem dX5_drawByHand_18 : decode cX5_drawByHand 18 = .ok (.aload_n 0, 1) := by decide +kernel
theorem dX5_drawByHand_19 : decode cX5_drawByHand 19 = .ok (.dup, 1) := by decide +kernel
theorem dX5_drawByHand_20 : decode cX5_drawByHand 20 = .ok (.getfield 37, 3) := by decide +kernel
theorem dX5_drawByHand_23 : decode cX5_drawByHand 23 = .ok (.iload_n 3, 1) := by decide +kernel
theorem dX5_drawByHand_24 : decode cX5_drawByHand 24 = .ok (.iload 4, 2) := by decide +kernel
theorem dX5_drawByHand_26 : decode cX5_drawByHand 26 = .ok (.iadd, 1) := by decide +kernel
theorem dX5_drawByHand_27 : decode cX5_drawByHand 27 = .ok (.iadd, 1) := by decide +kernel
theorem dX5_drawByHand_28 : decode cX5_drawByHand 28 = .ok (.putfield 37, 3) := by decide +kernel
theorem dX5_drawByHand_31 : decode cX5_drawByHand 31 = .ok (.aload_n 0, 1) := by decide +kernel
theorem dX5_drawByHand_32 : decode cX5_drawByHand 32 = .ok (.dup, 1) := by decide +kernel
theorem dX5_drawByHand_33 : decode cX5_drawByHand 33 = .ok (.getfield 53, 3) := by decide +kernel
theorem dX5_drawByHand_36 : decode cX5_drawByHand 36 = .ok (.iload_n 3, 1) := by decide +kernel
theorem dX5_drawByHand_37 : decode cX5_drawByHand 37 = .ok (.iadd, 1) := by decide +kernel
theorem dX5_drawByHand_38 : decode cX5_drawByHand 38 = .ok (.putfield 53, 3) := by decide +kernel
theorem dX5_drawByHand_41 : decode cX5_drawByHand 41 = .ok (.aload_n 0, 1) := by decide +kernel
theorem dX5_drawByHand_42 : decode cX5_drawByHand 42 = .ok (.aload_n 0, 1) := by decide +kernel
theorem dX5_drawByHand_43 : decode cX5_drawByHand 43 = .ok (.getfield 33, 3) := by decide +kernel
theorem dX5_drawByHand_46 : decode cX5_drawByHand 46 = .ok (.iload_n 1, 1) := by decide +kernel
theorem dX5_drawByHand_47 : decode cX5_drawByHand 47 = .ok (.iconst 1, 1) := by decide +kernel
theorem dX5_drawByHand_48 : decode cX5_drawByHand 48 = .ok (.iload_n 2, 1) := by decide +kernel
theorem dX5_drawByHand_49 : decode cX5_drawByHand 49 = .ok (.isub, 1) := by decide +kernel
theorem dX5_drawByHand_50 : decode cX5_drawByHand 50 = .ok (.invokevirtual 115, 3) := by decide +kernel
theorem dX5_drawByHand_53 : decode cX5_drawByHand 53 = .ok (.putfield 44, 3) := by decide +kernel
theorem dX5_drawByHand_56 : decode cX5_drawByHand 56 = .ok (.aload_n 0, 1) := by decide +kernel
theorem dX5_drawByHand_57 : decode cX5_drawByHand 57 = .ok (.aload_n 0, 1) := by decide +kernel
theorem dX5_drawByHand_58 : decode cX5_drawByHand 58 = .ok (.getfield 33, 3) := by decide +kernel
theorem dX5_drawByHand_61 : decode cX5_drawByHand 61 = .ok (.iload_n 1, 1) := by decide +kernel
theorem dX5_drawByHand_62 : decode cX5_drawByHand 62 = .ok (.iconst 1, 1) := by decide +kernel
theorem dX5_drawByHand_63 : decode cX5_drawByHand 63 = .ok (.iload_n 2, 1) := by decide +kernel
theorem dX5_drawByHand_64 : decode cX5_drawByHand 64 = .ok (.isub, 1) := by decide +kernel
theorem dX5_drawByHand_65 : decode cX5_drawByHand 65 = .ok (.invokevirtual 119, 3) := by decide +kernel
theorem dX5_drawByHand_68 : decode cX5_drawByHand 68 = .ok (.putfield 47, 3) := by decide +kernel
theorem dX5_drawByHand_71 : decode cX5_drawByHand 71 = .ok (.aload_n 0, 1) := by decide +kernel
theorem dX5_drawByHand_72 : decode cX5_drawByHand 72 = .ok (.getfield 33, 3) := by decide +kernel
theorem dX5_drawByHand_75 : decode cX5_drawByHand 75 = .ok (.getfield 97, 3) := by decide +kernel
theorem dX5_drawByHand_78 : decode cX5_drawByHand 78 = .ok (.iload_n 1, 1) := by decide +kernel
theorem dX5_drawByHand_79 : decode cX5_drawByHand 79 = .ok (.aload_n 0, 1) := by decide +kernel
theorem dX5_drawByHand_80 : decode cX5_drawByHand 80 = .ok (.getfield 41, 3) := by decide +kernel
theorem dX5_drawByHand_83 : decode cX5_drawByHand 83 = .ok (.iastore, 1) := by decide +kernel
theorem dX5_drawByHand_84 : decode cX5_drawByHand 84 = .ok (.aload_n 0, 1) := by decide +kernel
theorem dX5_drawByHand_85 : decode cX5_drawByHand 85 = .ok (.getfield 33, 3) := by decide +kernel
theorem dX5_drawByHand_88 : decode cX5_drawByHand 88 = .ok (.getfield 151, 3) := by decide +kernel
theorem dX5_drawByHand_91 : decode cX5_drawByHand 91 = .ok (.iload_n 1, 1) := by decide +kernel
theorem dX5_drawByHand_92 : decode cX5_drawByHand 92 = .ok (.aload_n 0, 1) := by decide +kernel
theorem dX5_drawByHand_93 : decode cX5_drawByHand 93 = .ok (.getfield 37, 3) := by decide +kernel
theorem dX5_drawByHand_96 : decode cX5_drawByHand 96 = .ok (.iastore, 1) := by decide +kernel
theorem dX5_drawByHand_97 : decode cX5_drawByHand 97 = .ok (.aload_n 0, 1) := by decide +kernel
theorem dX5_drawByHand_98 : decode cX5_drawByHand 98 = .ok (.getfield 33, 3) := by decide +kernel
theorem dX5_drawByHand_101 : decode cX5_drawByHand 101 = .ok (.getfield 84, 3) := by decide +kernel
theorem dX5_drawByHand_104 : decode cX5_drawByHand 104 = .ok (.iload_n 1, 1) := by decide +kernel
theorem dX5_drawByHand_105 : decode cX5_drawByHand 105 = .ok (.aload_n 0, 1) := by decide +kernel
theorem dX5_drawByHand_106 : decode cX5_drawByHand 106 = .ok (.getfield 37, 3) := by decide +kernel
theorem dX5_drawByHand_109 : decode cX5_drawByHand 109 = .ok (.aload_n 0, 1) := by decide +kernel
theorem dX5_drawByHand_110 : decode cX5_drawByHand 110 = .ok (.getfield 18, 3) := by decide +kernel
theorem dX5_drawByHand_113 : decode cX5_drawByHand 113 = .ok (.iconst 2, 1) := by decide +kernel
theorem dX5_drawByHand_114 : decode cX5_drawByHand 114 = .ok (.iaload, 1) := by decide +kernel
theorem dX5_drawByHand_115 : decode cX5_drawByHand 115 = .ok (.iadd, 1) := by decide +kernel
theorem dX5_drawByHand_116 : decode cX5_drawByHand 116 = .ok (.iastore, 1) := by decide +kernel
theorem dX5_drawByHand_117 : decode cX5_drawByHand 117 = .ok (.aload_n 0, 1) := by decide +kernel
theorem dX5_drawByHand_118 : decode cX5_drawByHand 118 = .ok (.getfield 33, 3) := by decide +kernel
theorem dX5_drawByHand_121 : decode cX5_drawByHand 121 = .ok (.getfield 106, 3) := by decide +kernel
theorem dX5_drawByHand_124 : decode cX5_drawByHand 124 = .ok (.iload_n 1, 1) := by decide +kernel
theorem dX5_drawByHand_125 : decode cX5_drawByHand 125 = .ok (.aload_n 0, 1) := by decide +kernel
theorem dX5_drawByHand_126 : decode cX5_drawByHand 126 = .ok (.getfield 26, 3) := by decide +kernel
theorem dX5_drawByHand_129 : decode cX5_drawByHand 129 = .ok (.getfield 138, 3) := by decide +kernel
theorem dX5_drawByHand_132 : decode cX5_drawByHand 132 = .ok (.aload_n 0, 1) := by decide +kernel
theorem dX5_drawByHand_133 : decode cX5_drawByHand 133 = .ok (.getfield 41, 3) := by decide +kernel
theorem dX5_drawByHand_136 : decode cX5_drawByHand 136 = .ok (.iaload, 1) := by decide +kernel
theorem dX5_drawByHand_137 : decode cX5_drawByHand 137 = .ok (.iastore, 1) := by decide +kernel
theorem dX5_drawByHand_138 : decode cX5_drawByHand 138 = .ok (.aload_n 0, 1) := by decide +kernel
theorem dX5_drawByHand_139 : decode cX5_drawByHand 139 = .ok (.getfield 26, 3) := by decide +kernel
theorem dX5_drawByHand_142 : decode cX5_drawByHand 142 = .ok (.getfield 138, 3) := by decide +kernel
theorem dX5_drawByHand_145 : decode cX5_drawByHand 145 = .ok (.aload_n 0, 1) := by decide +kernel
theorem dX5_drawByHand_146 : decode cX5_drawByHand 146 = .ok (.getfield 41, 3) := by decide +kernel
theorem dX5_drawByHand_149 : decode cX5_drawByHand 149 = .ok (.dup2, 1) := by decide +kernel
theorem dX5_drawByHand_150 : decode cX5_drawByHand 150 = .ok (.iaload, 1) := by decide +kernel
theorem dX5_drawByHand_151 : decode cX5_drawByHand 151 = .ok (.aload_n 0, 1) := by decide +kernel
theorem dX5_drawByHand_152 : decode cX5_drawByHand 152 = .ok (.aload_n 0, 1) := by decide +kernel
theorem dX5_drawByHand_153 : decode cX5_drawByHand 153 = .ok (.getfield 41, 3) := by decide +kernel
theorem dX5_drawByHand_156 : decode cX5_drawByHand 156 = .ok (.iload_n 1, 1) := by decide +kernel
theorem dX5_drawByHand_157 : decode cX5_drawByHand 157 = .ok (.invokevirtual 141, 3) := by decide +kernel
theorem dX5_drawByHand_160 : decode cX5_drawByHand 160 = .ok (.isub, 1) := by decide +kernel
theorem dX5_drawByHand_161 : decode cX5_drawByHand 161 = .ok (.iastore, 1) := by decide +kernel
theorem dX5_drawByHand_162 : decode cX5_drawByHand 162 = .ok (.aload_n 0, 1) := by decide +kernel
theorem dX5_drawByHand_163 : decode cX5_drawByHand 163 = .ok (.getfield 26, 3) := by decide +kernel
theorem dX5_drawByHand_166 : decode cX5_drawByHand 166 = .ok (.getfield 71, 3) := by decide +kernel
theorem dX5_drawByHand_169 : decode cX5_drawByHand 169 = .ok (.aload_n 0, 1) := by decide +kernel
theorem dX5_drawByHand_170 : decode cX5_drawByHand 170 = .ok (.getfield 41, 3) := by decide +kernel
theorem dX5_drawByHand_173 : decode cX5_drawByHand 173 = .ok (.dup2, 1) := by decide +kernel
theorem dX5_drawByHand_174 : decode cX5_drawByHand 174 = .ok (.iaload, 1) := by decide +kernel
theorem dX5_drawByHand_175 : decode cX5_drawByHand 175 = .ok (.iload 4, 2) := by decide +kernel
theorem dX5_drawByHand_177 : decode cX5_drawByHand 177 = .ok (.iadd, 1) := by decide +kernel
theorem dX5_drawByHand_178 : decode cX5_drawByHand 178 = .ok (.iastore, 1) := by decide +kernel
theorem dX5_drawByHand_179 : decode cX5_drawByHand 179 = .ok (.aload_n 0, 1) := by decide +kernel
theorem dX5_drawByHand_180 : decode cX5_drawByHand 180 = .ok (.getfield 26, 3) := by decide +kernel
theorem dX5_drawByHand_183 : decode cX5_drawByHand 183 = .ok (.getfield 78, 3) := by decide +kernel
theorem dX5_drawByHand_186 : decode cX5_drawByHand 186 = .ok (.aload_n 0, 1) := by decide +kernel
theorem dX5_drawByHand_187 : decode cX5_drawByHand 187 = .ok (.getfield 41, 3) := by decide +kernel
theorem dX5_drawByHand_190 : decode cX5_drawByHand 190 = .ok (.iconst 0, 1) := by decide +kernel
theorem dX5_drawByHand_191 : decode cX5_drawByHand 191 = .ok (.iastore, 1) := by decide +kernel
theorem dX5_drawByHand_192 : decode cX5_drawByHand 192 = .ok (.return_, 1) := by decide +kernel
theorem dX5_passIdly_0 : decode cX5_passIdly 0 = .ok (.aload_n 0, 1) := by decide +kernel
theorem dX5_passIdly_1 : decode cX5_passIdly 1 = .ok (.dup, 1) := by decide +kernel
theorem dX5_passIdly_2 : decode cX5_passIdly 2 = .ok (.getfield 37, 3) := by decide +kernel
theorem dX5_passIdly_5 : decode cX5_passIdly 5 = .ok (.iload_n 1, 1) := by decide +kernel
theorem dX5_passIdly_6 : decode cX5_passIdly 6 = .ok (.iadd, 1) := by decide +kernel
theorem dX5_passIdly_7 : decode cX5_passIdly 7 = .ok (.putfield 37, 3) := by decide +kernel
theorem dX5_passIdly_10 : decode cX5_passIdly 10 = .ok (.aload_n 0, 1) := by decide +kernel
theorem dX5_passIdly_11 : decode cX5_passIdly 11 = .ok (.getfield 26, 3) := by decide +kernel
theorem dX5_passIdly_14 : decode cX5_passIdly 14 = .ok (.aload_n 0, 1) := by decide +kernel
theorem dX5_passIdly_15 : decode cX5_passIdly 15 = .ok (.getfield 41, 3) := by decide +kernel
theorem dX5_passIdly_18 : decode cX5_passIdly 18 = .ok (.invokevirtual 100, 3) := by decide +kernel
theorem dX5_passIdly_21 : decode cX5_passIdly 21 = .ok (.ifCond .eq 19, 3) := by decide +kernel
theorem dX5_passIdly_24 : decode cX5_passIdly 24 = .ok (.aload_n 0, 1) := by decide +kernel
theorem dX5_passIdly_25 : decode cX5_passIdly 25 = .ok (.getfield 26, 3) := by decide +kernel
theorem dX5_passIdly_28 : decode cX5_passIdly 28 = .ok (.getfield 78, 3) := by decide +kernel
theorem dX5_passIdly_31 : decode cX5_passIdly 31 = .ok (.aload_n 0, 1) := by decide +kernel
theorem dX5_passIdly_32 : decode cX5_passIdly 32 = .ok (.getfield 41, 3) := by decide +kernel
theorem dX5_passIdly_35 : decode cX5_passIdly 35 = .ok (.dup2, 1) := by decide +kernel
theorem dX5_passIdly_36 : decode cX5_passIdly 36 = .ok (.iaload, 1) := by decide +kernel
theorem dX5_passIdly_37 : decode cX5_passIdly 37 = .ok (.iload_n 1, 1) := by decide +kernel
theorem dX5_passIdly_38 : decode cX5_passIdly 38 = .ok (.iadd, 1) := by decide +kernel
theorem dX5_passIdly_39 : decode cX5_passIdly 39 = .ok (.iastore, 1) := by decide +kernel
theorem dX5_passIdly_40 : decode cX5_passIdly 40 = .ok (.return_, 1) := by decide +kernel
theorem dX5_errorOfPassing_0 : decode cX5_errorOfPassing 0 = .ok (.aload_n 0, 1) := by decide +kernel
theorem dX5_errorOfPassing_1 : decode cX5_errorOfPassing 1 = .ok (.getfield 37, 3) := by decide +kernel
theorem dX5_errorOfPassing_4 : decode cX5_errorOfPassing 4 = .ok (.iload_n 1, 1) := by decide +kernel
theorem dX5_errorOfPassing_5 : decode cX5_errorOfPassing 5 = .ok (.iadd, 1) := by decide +kernel
theorem dX5_errorOfPassing_6 : decode cX5_errorOfPassing 6 = .ok (.ldc 150, 2) := by decide +kernel
theorem dX5_errorOfPassing_8 : decode cX5_errorOfPassing 8 = .ok (.if_icmp .le 8, 3) := by decide +kernel
theorem dX5_errorOfPassing_11 : decode cX5_errorOfPassing 11 = .ok (.ldc 154, 2) := by decide +kernel
theorem dX5_errorOfPassing_13 : decode cX5_errorOfPassing 13 = .ok (.goto 4, 3) := by decide +kernel
theorem dX5_errorOfPassing_16 : decode cX5_errorOfPassing 16 = .ok (.iconst 0, 1) := by decide +kernel
theorem dX5_errorOfPassing_17 : decode cX5_errorOfPassing 17 = .ok (.ireturn, 1) := by decide +kernel
theorem dX5_errorOfTaking_0 : decode cX5_errorOfTaking 0 = .ok (.iload_n 1, 1) := by decide +kernel
theorem dX5_errorOfTaking_1 : decode cX5_errorOfTaking 1 = .ok (.aload_n 0, 1) := by decide +kernel
theorem dX5_errorOfTaking_2 : decode cX5_errorOfTaking 2 = .ok (.getfield 41, 3) := by decide +kernel
theorem dX5_errorOfTaking_5 : decode cX5_errorOfTaking 5 = .ok (.if_icmp .eq 14, 3) := by decide +kernel
theorem dX5_errorOfTaking_8 : decode cX5_errorOfTaking 8 = .ok (.aload_n 0, 1) := by decide +kernel
theorem dX5_errorOfTaking_9 : decode cX5_errorOfTaking 9 = .ok (.getfield 26, 3) := by decide +kernel
theorem dX5_errorOfTaking_12 : decode cX5_errorOfTaking 12 = .ok (.iload_n 1, 1) := by decide +kernel
theorem dX5_errorOfTaking_13 : decode cX5_errorOfTaking 13 = .ok (.invokevirtual 67, 3) := by decide +kernel
theorem dX5_errorOfTaking_16 : decode cX5_errorOfTaking 16 = .ok (.ifCond .eq 6, 3) := by decide +kernel
theorem dX5_errorOfTaking_19 : decode cX5_errorOfTaking 19 = .ok (.ldc 155, 2) := by decide +kernel
theorem dX5_errorOfTaking_21 : decode cX5_errorOfTaking 21 = .ok (.ireturn, 1) := by decide +kernel
theorem dX5_errorOfTaking_22 : decode cX5_errorOfTaking 22 = .ok (.aload_n 0, 1) := by decide +kernel
theorem dX5_errorOfTaking_23 : decode cX5_errorOfTaking 23 = .ok (.aload_n 0, 1) := by decide +kernel
theorem dX5_errorOfTaking_24 : decode cX5_errorOfTaking 24 = .ok (.getfield 18, 3) := by decide +kernel
theorem dX5_errorOfTaking_27 : decode cX5_errorOfTaking 27 = .ok (.iconst 3, 1) := by decide +kernel
theorem dX5_errorOfTaking_28 : decode cX5_errorOfTaking 28 = .ok (.iaload, 1) := by decide +kernel
theorem dX5_errorOfTaking_29 : decode cX5_errorOfTaking 29 = .ok (.invokevirtual 156, 3) := by decide +kernel
theorem dX5_errorOfTaking_32 : decode cX5_errorOfTaking 32 = .ok (.ireturn, 1) := by decide +kernel
theorem dX5_errorOfGoingHome_0 : decode cX5_errorOfGoingHome 0 = .ok (.aload_n 0, 1) := by decide +kernel
theorem dX5_errorOfGoingHome_1 : decode cX5_errorOfGoingHome 1 = .ok (.getfield 41, 3) := by decide +kernel
theorem dX5_errorOfGoingHome_4 : decode cX5_errorOfGoingHome 4 = .ok (.iconst (-1), 1) := by decide +kernel
theorem dX5_errorOfGoingHome_5 : decode cX5_errorOfGoingHome 5 = .ok (.if_icmp .ne 8, 3) := by decide +kernel
theorem dX5_errorOfGoingHome_8 : decode cX5_errorOfGoingHome 8 = .ok (.ldc 155, 2) := by decide +kernel
theorem dX5_errorOfGoingHome_10 : decode cX5_errorOfGoingHome 10 = .ok (.goto 13, 3) := by decide +kernel
theorem dX5_errorOfGoingHome_13 : decode cX5_errorOfGoingHome 13 = .ok (.aload_n 0, 1) := by decide +kernel
theorem dX5_errorOfGoingHome_14 : decode cX5_errorOfGoingHome 14 = .ok (.aload_n 0, 1) := by decide +kernel
theorem dX5_errorOfGoingHome_15 : decode cX5_errorOfGoingHome 15 = .ok (.getfield 18, 3) := by decide +kernel
theorem dX5_errorOfGoingHome_18 : decode cX5_errorOfGoingHome 18 = .ok (.iconst 3, 1) := by decide +kernel
theorem dX5_errorOfGoingHome_19 : decode cX5_errorOfGoingHome 19 = .ok (.iaload, 1) := by decide +kernel
theorem dX5_errorOfGoingHome_20 : decode cX5_errorOfGoingHome 20 = .ok (.invokevirtual 156, 3) := by decide +kernel
theorem dX5_errorOfGoingHome_23 : decode cX5_errorOfGoingHome 23 = .ok (.ireturn, 1) := by decide +kernel
theorem dX5_errorOfWaiting_0 : decode cX5_errorOfWaiting 0 = .ok (.iload_n 1, 1) := by decide +kernel
theorem dX5_errorOfWaiting_1 : decode cX5_errorOfWaiting 1 = .ok (.iconst 1, 1) := by decide +kernel
theorem dX5_errorOfWaiting_2 : decode cX5_errorOfWaiting 2 = .ok (.sipush 200, 3) := by decide +kernel
theorem dX5_errorOfWaiting_5 : decode cX5_errorOfWaiting 5 = .ok (.invokestatic 159, 3) := by decide +kernel
theorem dX5_errorOfWaiting_8 : decode cX5_errorOfWaiting 8 = .ok (.ifCond .eq 11, 3) := by decide +kernel
theorem dX5_errorOfWaiting_11 : decode cX5_errorOfWaiting 11 = .ok (.aload_n 0, 1) := by decide +kernel
theorem dX5_errorOfWaiting_12 : decode cX5_errorOfWaiting 12 = .ok (.iload_n 1, 1) := by decide +kernel
theorem dX5_errorOfWaiting_13 : decode cX5_errorOfWaiting 13 = .ok (.invokevirtual 156, 3) := by decide +kernel
theorem dX5_errorOfWaiting_16 : decode cX5_errorOfWaiting 16 = .ok (.goto 5, 3) := by decide +kernel
theorem dX5_errorOfWaiting_19 : decode cX5_errorOfWaiting 19 = .ok (.ldc 163, 2) := by decide +kernel
theorem dX5_errorOfWaiting_21 : decode cX5_errorOfWaiting 21 = .ok (.ireturn, 1) := by decide +kernel
theorem dX5_errorOfCleaning_0 : decode cX5_errorOfCleaning 0 = .ok (.aload_n 0, 1) := by decide +kernel
theorem dX5_errorOfCleaning_1 : decode cX5_errorOfCleaning 1 = .ok (.getfield 41, 3) := by decide +kernel
theorem dX5_errorOfCleaning_4 : decode cX5_errorOfCleaning 4 = .ok (.iconst (-1), 1) := by decide +kernel
theorem dX5_errorOfCleaning_5 : decode cX5_errorOfCleaning 5 = .ok (.if_icmp .ne 8, 3) := by decide +kernel
theorem dX5_errorOfCleaning_8 : decode cX5_errorOfCleaning 8 = .ok (.ldc 155, 2) := by decide +kernel
theorem dX5_errorOfCleaning_10 : decode cX5_errorOfCleaning 10 = .ok (.goto 13, 3) := by decide +kernel
theorem dX5_errorOfCleaning_13 : decode cX5_errorOfCleaning 13 = .ok (.aload_n 0, 1) := by decide +kernel
theorem dX5_errorOfCleaning_14 : decode cX5_errorOfCleaning 14 = .ok (.aload_n 0, 1) := by decide +kernel
theorem dX5_errorOfCleaning_15 : decode cX5_errorOfCleaning 15 = .ok (.getfield 18, 3) := by decide +kernel
theorem dX5_errorOfCleaning_18 : decode cX5_errorOfCleaning 18 = .ok (.iconst 4, 1) := by decide +kernel
theorem dX5_errorOfCleaning_19 : decode cX5_errorOfCleaning 19 = .ok (.iaload, 1) := by decide +kernel
theorem dX5_errorOfCleaning_20 : decode cX5_errorOfCleaning 20 = .ok (.invokevirtual 156, 3) := by decide +kernel
theorem dX5_errorOfCleaning_23 : decode cX5_errorOfCleaning 23 = .ok (.ireturn, 1) := by decide +kernel
theorem dX5_swapTo_0 : decode cX5_swapTo 0 = .ok (.aload_n 0, 1) := by decide +kernel
theorem dX5_swapTo_1 : decode cX5_swapTo 1 = .ok (.getfield 41, 3) := by decide +kernel
theorem dX5_swapTo_4 : decode cX5_swapTo 4 = .ok (.istore_n 2, 1) := by decide +kernel
theorem dX5_swapTo_5 : decode cX5_swapTo 5 = .ok (.aload_n 0, 1) := by decide +kernel
theorem dX5_swapTo_6 : decode cX5_swapTo 6 = .ok (.aload_n 0, 1) := by decide +kernel
theorem dX5_swapTo_7 : decode cX5_swapTo 7 = .ok (.getfield 18, 3) := by decide +kernel
theorem dX5_swapTo_10 : decode cX5_swapTo 10 = .ok (.iconst 3, 1) := by decide +kernel
theorem dX5_swapTo_11 : decode cX5_swapTo 11 = .ok (.iaload, 1) := by decide +kernel
theorem dX5_swapTo_12 : decode cX5_swapTo 12 = .ok (.invokevirtual 164, 3) := by decide +kernel
theorem dX5_swapTo_15 : decode cX5_swapTo 15 = .ok (.aload_n 0, 1) := by decide +kernel
theorem dX5_swapTo_16 : decode cX5_swapTo 16 = .ok (.iload_n 1, 1) := by decide +kernel
theorem dX5_swapTo_17 : decode cX5_swapTo 17 = .ok (.putfield 41, 3) := by decide +kernel
theorem dX5_swapTo_20 : decode cX5_swapTo 20 = .ok (.aload_n 0, 1) := by decide +kernel
theorem dX5_swapTo_21 : decode cX5_swapTo 21 = .ok (.dup, 1) := by decide +kernel
theorem dX5_swapTo_22 : decode cX5_swapTo 22 = .ok (.getfield 50, 3) := by decide +kernel
theorem dX5_swapTo_25 : decode cX5_swapTo 25 = .ok (.iconst 1, 1) := by decide +kernel
theorem dX5_swapTo_26 : decode cX5_swapTo 26 = .ok (.iadd, 1) := by decide +kernel
theorem dX5_swapTo_27 : decode cX5_swapTo 27 = .ok (.putfield 50, 3) := by decide +kernel
theorem dX5_swapTo_30 : decode cX5_swapTo 30 = .ok (.iload_n 2, 1) := by decide +kernel
theorem dX5_swapTo_31 : decode cX5_swapTo 31 = .ok (.ireturn, 1) := by decide +kernel
theorem dX5_cleanHand_0 : decode cX5_cleanHand 0 = .ok (.aload_n 0, 1) := by decide +kernel
theorem dX5_cleanHand_1 : decode cX5_cleanHand 1 = .ok (.getfield 26, 3) := by decide +kernel
theorem dX5_cleanHand_4 : decode cX5_cleanHand 4 = .ok (.aload_n 0, 1) := by decide +kernel
theorem dX5_cleanHand_5 : decode cX5_cleanHand 5 = .ok (.getfield 41, 3) := by decide +kernel
theorem dX5_cleanHand_8 : decode cX5_cleanHand 8 = .ok (.invokevirtual 100, 3) := by decide +kernel
theorem dX5_cleanHand_11 : decode cX5_cleanHand 11 = .ok (.ifCond .ne 6, 3) := by decide +kernel
theorem dX5_cleanHand_14 : decode cX5_cleanHand 14 = .ok (.ldc 155, 2) := by decide +kernel
theorem dX5_cleanHand_16 : decode cX5_cleanHand 16 = .ok (.ireturn, 1) := by decide +kernel
theorem dX5_cleanHand_17 : decode cX5_cleanHand 17 = .ok (.aload_n 0, 1) := by decide +kernel
theorem dX5_cleanHand_18 : decode cX5_cleanHand 18 = .ok (.getfield 26, 3) := by decide +kernel
theorem dX5_cleanHand_21 : decode cX5_cleanHand 21 = .ok (.getfield 78, 3) := by decide +kernel
theorem dX5_cleanHand_24 : decode cX5_cleanHand 24 = .ok (.aload_n 0, 1) := by decide +kernel
theorem dX5_cleanHand_25 : decode cX5_cleanHand 25 = .ok (.getfield 41, 3) := by decide +kernel
theorem dX5_cleanHand_28 : decode cX5_cleanHand 28 = .ok (.iaload, 1) := by decide +kernel
theorem dX5_cleanHand_29 : decode cX5_cleanHand 29 = .ok (.istore_n 1, 1) := by decide +kernel
theorem dX5_cleanHand_30 : decode cX5_cleanHand 30 = .ok (.aload_n 0, 1) := by decide +kernel
theorem dX5_cleanHand_31 : decode cX5_cleanHand 31 = .ok (.aload_n 0, 1) := by decide +kernel
theorem dX5_cleanHand_32 : decode cX5_cleanHand 32 = .ok (.getfield 18, 3) := by decide +kernel
theorem dX5_cleanHand_35 : decode cX5_cleanHand 35 = .ok (.iconst 4, 1) := by decide +kernel
theorem dX5_cleanHand_36 : decode cX5_cleanHand 36 = .ok (.iaload, 1) := by decide +kernel
theorem dX5_cleanHand_37 : decode cX5_cleanHand 37 = .ok (.invokevirtual 164, 3) := by decide +kernel
theorem dX5_cleanHand_40 : decode cX5_cleanHand 40 = .ok (.aload_n 0, 1) := by decide +kernel
theorem dX5_cleanHand_41 : decode cX5_cleanHand 41 = .ok (.getfield 26, 3) := by decide +kernel
theorem dX5_cleanHand_44 : decode cX5_cleanHand 44 = .ok (.getfield 78, 3) := by decide +kernel
theorem dX5_cleanHand_47 : decode cX5_cleanHand 47 = .ok (.aload_n 0, 1) := by decide +kernel
theorem dX5_cleanHand_48 : decode cX5_cleanHand 48 = .ok (.getfield 41, 3) := by decide +kernel
theorem dX5_cleanHand_51 : decode cX5_cleanHand 51 = .ok (.iconst 0, 1) := by decide +kernel
theorem dX5_cleanHand_52 : decode cX5_cleanHand 52 = .ok (.iastore, 1) := by decide +kernel
theorem dX5_cleanHand_53 : decode cX5_cleanHand 53 = .ok (.iload_n 1, 1) := by decide +kernel
theorem dX5_cleanHand_54 : decode cX5_cleanHand 54 = .ok (.ireturn, 1) := by decide +kernel
theorem dX6_init_0 : decode cX6_init 0 = .ok (.aload_n 0, 1) := by decide +kernel
theorem dX6_init_1 : decode cX6_init 1 = .ok (.invokespecial 3, 3) := by decide +kernel
theorem dX6_init_4 : decode cX6_init 4 = .ok (.aload_n 0, 1) := by decide +kernel
theorem dX6_init_5 : decode cX6_init 5 = .ok (.iconst 0, 1) := by decide +kernel
theorem dX6_init_6 : decode cX6_init 6 = .ok (.putfield 9, 3) := by decide +kernel
theorem dX6_init_9 : decode cX6_init 9 = .ok (.aload_n 0, 1) := by decide +kernel
theorem dX6_init_10 : decode cX6_init 10 = .ok (.bipush 16, 2) := by decide +kernel
theorem dX6_init_12 : decode cX6_init 12 = .ok (.newarray .int, 2) := by decide +kernel
theorem dX6_init_14 : decode cX6_init 14 = .ok (.putfield 15, 3) := by decide +kernel
theorem dX6_init_17 : decode cX6_init 17 = .ok (.aload_n 0, 1) := by decide +kernel
theorem dX6_init_18 : decode cX6_init 18 = .ok (.bipush 16, 2) := by decide +kernel
theorem dX6_init_20 : decode cX6_init 20 = .ok (.newarray .int, 2) := by decide +kernel
theorem dX6_init_22 : decode cX6_init 22 = .ok (.putfield 19, 3) := by decide +kernel
theorem dX6_init_25 : decode cX6_init 25 = .ok (.aload_n 0, 1) := by decide +kernel
theorem dX6_init_26 : decode cX6_init 26 = .ok (.bipush 16, 2) := by decide +kernel
theorem dX6_init_28 : decode cX6_init 28 = .ok (.newarray .int, 2) := by decide +kernel
theorem dX6_init_30 : decode cX6_init 30 = .ok (.putfield 22, 3) := by decide +kernel
theorem dX6_init_33 : decode cX6_init 33 = .ok (.aload_n 0, 1) := by decide +kernel
theorem dX6_init_34 : decode cX6_init 34 = .ok (.bipush 16, 2) := by decide +kernel
theorem dX6_init_36 : decode cX6_init 36 = .ok (.newarray .boolean, 2) := by decide +kernel
theorem dX6_init_38 : decode cX6_init 38 = .ok (.putfield 25, 3) := by decide +kernel
theorem dX6_init_41 : decode cX6_init 41 = .ok (.aload_n 0, 1) := by decide +kernel
theorem dX6_init_42 : decode cX6_init 42 = .ok (.iconst 0, 1) := by decide +kernel
theorem dX6_init_43 : decode cX6_init 43 = .ok (.putfield 29, 3) := by decide +kernel
theorem dX6_init_46 : decode cX6_init 46 = .ok (.aload_n 0, 1) := by decide +kernel
theorem dX6_init_47 : decode cX6_init 47 = .ok (.iconst 0, 1) := by decide +kernel
theorem dX6_init_48 : decode cX6_init 48 = .ok (.putfield 32, 3) := by decide +kernel
theorem dX6_init_51 : decode cX6_init 51 = .ok (.return_, 1) := by decide +kernel
theorem dX6_make_0 : decode cX6_make 0 = .ok (.aload_n 0, 1) := by decide +kernel
theorem dX6_make_1 : decode cX6_make 1 = .ok (.iconst 0, 1) := by decide +kernel
theorem dX6_make_2 : decode cX6_make 2 = .ok (.putfield 9, 3) := by decide +kernel
theorem dX6_make_5 : decode cX6_make 5 = .ok (.aload_n 0, 1) := by decide +kernel
theorem dX6_make_6 : decode cX6_make 6 = .ok (.aload_n 1, 1) := by decide +kernel
theorem dX6_make_7 : decode cX6_make 7 = .ok (.getfield 35, 3) := by decide +kernel
theorem dX6_make_10 : decode cX6_make 10 = .ok (.putfield 29, 3) := by decide +kernel
theorem dX6_make_13 : decode cX6_make 13 = .ok (.aload_n 0, 1) := by decide +kernel
theorem dX6_make_14 : decode cX6_make 14 = .ok (.aload_n 1, 1) := by decide +kernel
theorem dX6_make_15 : decode cX6_make 15 = .ok (.getfield 38, 3) := by decide +kernel
theorem dX6_make_18 : decode cX6_make 18 = .ok (.putfield 32, 3) := by decide +kernel
theorem dX6_make_21 : decode cX6_make 21 = .ok (.iconst 0, 1) := by decide +kernel
theorem dX6_make_22 : decode cX6_make 22 = .ok (.istore_n 3, 1) := by decide +kernel
theorem dX6_make_23 : decode cX6_make 23 = .ok (.iload_n 3, 1) := by decide +kernel
theorem dX6_make_24 : decode cX6_make 24 = .ok (.bipush 16, 2) := by decide +kernel
theorem dX6_make_26 : decode cX6_make 26 = .ok (.if_icmp .ge 16, 3) := by decide +kernel
theorem dX6_make_29 : decode cX6_make 29 = .ok (.aload_n 0, 1) := by decide +kernel
theorem dX6_make_30 : decode cX6_make 30 = .ok (.getfield 25, 3) := by decide +kernel
theorem dX6_make_33 : decode cX6_make 33 = .ok (.iload_n 3, 1) := by decide +kernel
theorem dX6_make_34 : decode cX6_make 34 = .ok (.iconst 0, 1) := by decide +kernel
theorem dX6_make_35 : decode cX6_make 35 = .ok (.bastore, 1) := by decide +kernel
theorem dX6_make_36 : decode cX6_make 36 = .ok (.iinc 3 1, 3) := by decide +kernel
theorem dX6_make_39 : decode cX6_make 39 = .ok (.goto (-16), 3) := by decide +kernel
theorem dX6_make_42 : decode cX6_make 42 = .ok (.iconst 0, 1) := by decide +kernel
theorem dX6_make_43 : decode cX6_make 43 = .ok (.istore_n 3, 1) := by decide +kernel
theorem dX6_make_44 : decode cX6_make 44 = .ok (.iconst 0, 1) := by decide +kernel
theorem dX6_make_45 : decode cX6_make 45 = .ok (.istore 4, 2) := by decide +kernel
theorem dX6_make_47 : decode cX6_make 47 = .ok (.iload 4, 2) := by decide +kernel
theorem dX6_make_49 : decode cX6_make 49 = .ok (.aload_n 1, 1) := by decide +kernel
theorem dX6_make_50 : decode cX6_make 50 = .ok (.getfield 39, 3) := by decide +kernel
theorem dX6_make_53 : decode cX6_make 53 = .ok (.getfield 43, 3) := by decide +kernel
theorem dX6_make_56 : decode cX6_make 56 = .ok (.if_icmp .ge 45, 3) := by decide +kernel
theorem dX6_make_59 : decode cX6_make 59 = .ok (.aload_n 0, 1) := by decide +kernel
theorem dX6_make_60 : decode cX6_make 60 = .ok (.aload_n 1, 1) := by decide +kernel
theorem dX6_make_61 : decode cX6_make 61 = .ok (.aload_n 2, 1) := by decide +kernel
theorem dX6_make_62 : decode cX6_make 62 = .ok (.invokevirtual 46, 3) := by decide +kernel
theorem dX6_make_65 : decode cX6_make 65 = .ok (.istore 5, 2) := by decide +kernel
theorem dX6_make_67 : decode cX6_make 67 = .ok (.iload 5, 2) := by decide +kernel
theorem dX6_make_69 : decode cX6_make 69 = .ok (.iconst (-1), 1) := by decide +kernel
theorem dX6_make_70 : decode cX6_make 70 = .ok (.if_icmp .ne 4, 3) := by decide +kernel
theorem dX6_make_73 : decode cX6_make 73 = .ok (.return_, 1) := by decide +kernel
theorem dX6_make_74 : decode cX6_make 74 = .ok (.iload_n 3, 1) := by decide +kernel
theorem dX6_make_75 : decode cX6_make 75 = .ok (.aload_n 0, 1) := by decide +kernel
theorem dX6_make_76 : decode cX6_make 76 = .ok (.aload_n 1, 1) := by decide +kernel
theorem dX6_make_77 : decode cX6_make 77 = .ok (.getfield 39, 3) := by decide +kernel
theorem dX6_make_80 : decode cX6_make 80 = .ok (.iload 5, 2) := by decide +kernel
theorem dX6_make_82 : decode cX6_make 82 = .ok (.invokevirtual 50, 3) := by decide +kernel
theorem dX6_make_85 : decode cX6_make 85 = .ok (.iadd, 1) := by decide +kernel
theorem dX6_make_86 : decode cX6_make 86 = .ok (.istore_n 3, 1) := by decide +kernel
theorem dX6_make_87 : decode cX6_make 87 = .ok (.aload_n 0, 1) := by decide +kernel
theorem dX6_make_88 : decode cX6_make 88 = .ok (.getfield 22, 3) := by decide +kernel
theorem dX6_make_91 : decode cX6_make 91 = .ok (.iload 4, 2) := by decide +kernel
theorem dX6_make_93 : decode cX6_make 93 = .ok (.iload_n 3, 1) := by decide +kernel
theorem dX6_make_94 : decode cX6_make 94 = .ok (.iastore, 1) := by decide +kernel
theorem dX6_make_95 : decode cX6_make 95 = .ok (.iinc 4 1, 3) := by decide +kernel
theorem dX6_make_98 : decode cX6_make 98 = .ok (.goto (-51), 3) := by decide +kernel
theorem dX6_make_101 : decode cX6_make 101 = .ok (.return_, 1) := by decide +kernel
theorem dX6_nearestLeft_0 : decode cX6_nearestLeft 0 = .ok (.iconst (-1), 1) := by decide +kernel
theorem dX6_nearestLeft_1 : decode cX6_nearestLeft 1 = .ok (.istore_n 3, 1) := by decide +kernel
theorem dX6_nearestLeft_2 : decode cX6_nearestLeft 2 = .ok (.iconst 0, 1) := by decide +kernel
theorem dX6_nearestLeft_3 : decode cX6_nearestLeft 3 = .ok (.istore 4, 2) := by decide +kernel
theorem dX6_nearestLeft_5 : decode cX6_nearestLeft 5 = .ok (.iconst 0, 1) := by decide +kernel
theorem dX6_nearestLeft_6 : decode cX6_nearestLeft 6 = .ok (.istore 5, 2) := by decide +kernel
theorem dX6_nearestLeft_8 : decode cX6_nearestLeft 8 = .ok (.iload 5, 2) := by decide +kernel
theorem dX6_nearestLeft_10 : decode cX6_nearestLeft 10 = .ok (.aload_n 1, 1) := by decide +kernel
theorem dX6_nearestLeft_11 : decode cX6_nearestLeft 11 = .ok (.getfield 39, 3) := by decide +kernel
theorem dX6_nearestLeft_14 : decode cX6_nearestLeft 14 = .ok (.getfield 43, 3) := by decide +kernel
theorem dX6_nearestLeft_17 : decode cX6_nearestLeft 17 = .ok (.if_icmp .ge 82, 3) := by decide +kernel
theorem dX6_nearestLeft_20 : decode cX6_nearestLeft 20 = .ok (.aload_n 2, 1) := by decide +kernel
theorem dX6_nearestLeft_21 : decode cX6_nearestLeft 21 = .ok (.getfield 54, 3) := by decide +kernel
theorem dX6_nearestLeft_24 : decode cX6_nearestLeft 24 = .ok (.iload 5, 2) := by decide +kernel
theorem dX6_nearestLeft_26 : decode cX6_nearestLeft 26 = .ok (.iaload, 1) := by decide +kernel
theorem dX6_nearestLeft_27 : decode cX6_nearestLeft 27 = .ok (.aload_n 1, 1) := by decide +kernel
theorem dX6_nearestLeft_28 : decode cX6_nearestLeft 28 = .ok (.getfield 59, 3) := by decide +kernel
theorem dX6_nearestLeft_31 : decode cX6_nearestLeft 31 = .ok (.if_icmp .ne 62, 3) := by decide +kernel
theorem dX6_nearestLeft_34 : decode cX6_nearestLeft 34 = .ok (.aload_n 0, 1) := by decide +kernel
theorem dX6_nearestLeft_35 : decode cX6_nearestLeft 35 = .ok (.getfield 25, 3) := by decide +kernel
theorem dX6_nearestLeft_38 : decode cX6_nearestLeft 38 = .ok (.iload 5, 2) := by decide +kernel
theorem dX6_nearestLeft_40 : decode cX6_nearestLeft 40 = .ok (.baload, 1) := by decide +kernel
theorem dX6_nearestLeft_41 : decode cX6_nearestLeft 41 = .ok (.ifCond .eq 6, 3) := by decide +kernel
theorem dX6_nearestLeft_44 : decode cX6_nearestLeft 44 = .ok (.goto 49, 3) := by decide +kernel
theorem dX6_nearestLeft_47 : decode cX6_nearestLeft 47 = .ok (.aload_n 0, 1) := by decide +kernel
theorem dX6_nearestLeft_48 : decode cX6_nearestLeft 48 = .ok (.aload_n 1, 1) := by decide +kernel
theorem dX6_nearestLeft_49 : decode cX6_nearestLeft 49 = .ok (.getfield 39, 3) := by decide +kernel
theorem dX6_nearestLeft_52 : decode cX6_nearestLeft 52 = .ok (.iload 5, 2) := by decide +kernel
theorem dX6_nearestLeft_54 : decode cX6_nearestLeft 54 = .ok (.iconst 0, 1) := by decide +kernel
theorem dX6_nearestLeft_55 : decode cX6_nearestLeft 55 = .ok (.invokevirtual 62, 3) := by decide +kernel
theorem dX6_nearestLeft_58 : decode cX6_nearestLeft 58 = .ok (.aload_n 0, 1) := by decide +kernel
theorem dX6_nearestLeft_59 : decode cX6_nearestLeft 59 = .ok (.aload_n 1, 1) := by decide +kernel
theorem dX6_nearestLeft_60 : decode cX6_nearestLeft 60 = .ok (.getfield 39, 3) := by decide +kernel
theorem dX6_nearestLeft_63 : decode cX6_nearestLeft 63 = .ok (.iload 5, 2) := by decide +kernel
theorem dX6_nearestLeft_65 : decode cX6_nearestLeft 65 = .ok (.iconst 1, 1) := by decide +kernel
theorem dX6_nearestLeft_66 : decode cX6_nearestLeft 66 = .ok (.invokevirtual 62, 3) := by decide +kernel
theorem dX6_nearestLeft_69 : decode cX6_nearestLeft 69 = .ok (.invokestatic 66, 3) := by decide +kernel
theorem dX6_nearestLeft_72 : decode cX6_nearestLeft 72 = .ok (.istore 6, 2) := by decide +kernel
theorem dX6_nearestLeft_74 : decode cX6_nearestLeft 74 = .ok (.iload_n 3, 1) := by decide +kernel
theorem dX6_nearestLeft_75 : decode cX6_nearestLeft 75 = .ok (.iconst (-1), 1) := by decide +kernel
theorem dX6_nearestLeft_76 : decode cX6_nearestLeft 76 = .ok (.if_icmp .eq 10, 3) := by decide +kernel
theorem dX6_nearestLeft_79 : decode cX6_nearestLeft 79 = .ok (.iload 6, 2) := by decide +kernel
theorem dX6_nearestLeft_81 : decode cX6_nearestLeft 81 = .ok (.iload 4, 2) := by decide +kernel
theorem dX6_nearestLeft_83 : decode cX6_nearestLeft 83 = .ok (.if_icmp .ge 10, 3) := by decide +kernel
theorem dX6_nearestLeft_86 : decode cX6_nearestLeft 86 = .ok (.iload 5, 2) := by decide +kernel
theorem dX6_nearestLeft_88 : decode cX6_nearestLeft 88 = .ok (.istore_n 3, 1) := by decide +kernel
theorem dX6_nearestLeft_89 : decode cX6_nearestLeft 89 = .ok (.iload 6, 2) := by decide +kernel
theorem dX6_nearestLeft_91 : decode cX6_nearestLeft 91 = .ok (.istore 4, 2) := by decide +kernel
theorem dX6_nearestLeft_93 : decode cX6_nearestLeft 93 = .ok (.iinc 5 1, 3) := by decide +kernel
theorem dX6_nearestLeft_96 : decode cX6_nearestLeft 96 = .ok (.goto (-88), 3) := by decide +kernel
theorem dX6_nearestLeft_99 : decode cX6_nearestLeft 99 = .ok (.iload_n 3, 1) := by decide +kernel
theorem dX6_nearestLeft_100 : decode cX6_nearestLeft 100 = .ok (.ireturn, 1) := by decide +kernel
theorem dX6_travelTo_0 : decode cX6_travelTo 0 = .ok (.aload_n 0, 1) := by decide +kernel
theorem dX6_travelTo_1 : decode cX6_travelTo 1 = .ok (.getfield 29, 3) := by decide +kernel
theorem dX6_travelTo_4 : decode cX6_travelTo 4 = .ok (.aload_n 0, 1) := by decide +kernel
theorem dX6_travelTo_5 : decode cX6_travelTo 5 = .ok (.getfield 32, 3) := by decide +kernel
theorem dX6_travelTo_8 : decode cX6_travelTo 8 = .ok (.aload_n 1, 1) := by decide +kernel
theorem dX6_travelTo_9 : decode cX6_travelTo 9 = .ok (.iload_n 2, 1) := by decide +kernel
theorem dX6_travelTo_10 : decode cX6_travelTo 10 = .ok (.iload_n 3, 1) := by decide +kernel
theorem dX6_travelTo_11 : decode cX6_travelTo 11 = .ok (.invokevirtual 72, 3) := by decide +kernel
theorem dX6_travelTo_14 : decode cX6_travelTo 14 = .ok (.aload_n 1, 1) := by decide +kernel
theorem dX6_travelTo_15 : decode cX6_travelTo 15 = .ok (.iload_n 2, 1) := by decide +kernel
theorem dX6_travelTo_16 : decode cX6_travelTo 16 = .ok (.iload_n 3, 1) := by decide +kernel
theorem dX6_travelTo_17 : decode cX6_travelTo 17 = .ok (.invokevirtual 75, 3) := by decide +kernel
theorem dX6_travelTo_20 : decode cX6_travelTo 20 = .ok (.invokestatic 78, 3) := by decide +kernel
theorem dX6_travelTo_23 : decode cX6_travelTo 23 = .ok (.ireturn, 1) := by decide +kernel
theorem dX6_goAlong_0 : decode cX6_goAlong 0 = .ok (.aload_n 0, 1) := by decide +kernel
theorem dX6_goAlong_1 : decode cX6_goAlong 1 = .ok (.aload_n 1, 1) := by decide +kernel
theorem dX6_goAlong_2 : decode cX6_goAlong 2 = .ok (.iload_n 2, 1) := by decide +kernel
theorem dX6_goAlong_3 : decode cX6_goAlong 3 = .ok (.iconst 1, 1) := by decide +kernel
theorem dX6_goAlong_4 : decode cX6_goAlong 4 = .ok (.invokevirtual 62, 3) := by decide +kernel
theorem dX6_goAlong_7 : decode cX6_goAlong 7 = .ok (.aload_n 0, 1) := by decide +kernel
theorem dX6_goAlong_8 : decode cX6_goAlong 8 = .ok (.aload_n 1, 1) := by decide +kernel
theorem dX6_goAlong_9 : decode cX6_goAlong 9 = .ok (.iload_n 2, 1) := by decide +kernel
theorem dX6_goAlong_10 : decode cX6_goAlong 10 = .ok (.iconst 0, 1) := by decide +kernel
theorem dX6_goAlong_11 : decode cX6_goAlong 11 = .ok (.invokevirtual 62, 3) := by decide +kernel
theorem dX6_goAlong_14 : decode cX6_goAlong 14 = .ok (.if_icmp .ge 7, 3) := by decide +kernel
theorem dX6_goAlong_17 : decode cX6_goAlong 17 = .ok (.iconst 1, 1) := by decide +kernel
theorem dX6_goAlong_18 : decode cX6_goAlong 18 = .ok (.goto 4, 3) := by decide +kernel
theorem dX6_goAlong_21 : decode cX6_goAlong 21 = .ok (.iconst 0, 1) := by decide +kernel
theorem dX6_goAlong_22 : decode cX6_goAlong 22 = .ok (.istore_n 3, 1) := by decide +kernel
theorem dX6_goAlong_23 : decode cX6_goAlong 23 = .ok (.aload_n 0, 1) := by decide +kernel
theorem dX6_goAlong_24 : decode cX6_goAlong 24 = .ok (.aload_n 1, 1) := by decide +kernel
theorem dX6_goAlong_25 : decode cX6_goAlong 25 = .ok (.iload_n 2, 1) := by decide +kernel
theorem dX6_goAlong_26 : decode cX6_goAlong 26 = .ok (.iload_n 3, 1) := by decide +kernel
theorem dX6_goAlong_27 : decode cX6_goAlong 27 = .ok (.invokevirtual 62, 3) := by decide +kernel
theorem dX6_goAlong_30 : decode cX6_goAlong 30 = .ok (.aload_n 1, 1) := by decide +kernel
theorem dX6_goAlong_31 : decode cX6_goAlong 31 = .ok (.getfield 82, 3) := by decide +kernel
theorem dX6_goAlong_34 : decode cX6_goAlong 34 = .ok (.iload_n 2, 1) := by decide +kernel
theorem dX6_goAlong_35 : decode cX6_goAlong 35 = .ok (.iaload, 1) := by decide +kernel
theorem dX6_goAlong_36 : decode cX6_goAlong 36 = .ok (.iadd, 1) := by decide +kernel
theorem dX6_goAlong_37 : decode cX6_goAlong 37 = .ok (.istore 4, 2) := by decide +kernel
theorem dX6_goAlong_39 : decode cX6_goAlong 39 = .ok (.aload_n 0, 1) := by decide +kernel
theorem dX6_goAlong_40 : decode cX6_goAlong 40 = .ok (.getfield 15, 3) := by decide +kernel
theorem dX6_goAlong_43 : decode cX6_goAlong 43 = .ok (.aload_n 0, 1) := by decide +kernel
theorem dX6_goAlong_44 : decode cX6_goAlong 44 = .ok (.getfield 9, 3) := by decide +kernel
theorem dX6_goAlong_47 : decode cX6_goAlong 47 = .ok (.iload_n 2, 1) := by decide +kernel
theorem dX6_goAlong_48 : decode cX6_goAlong 48 = .ok (.iastore, 1) := by decide +kernel
theorem dX6_goAlong_49 : decode cX6_goAlong 49 = .ok (.aload_n 0, 1) := by decide +kernel
theorem dX6_goAlong_50 : decode cX6_goAlong 50 = .ok (.getfield 19, 3) := by decide +kernel
theorem dX6_goAlong_53 : decode cX6_goAlong 53 = .ok (.aload_n 0, 1) := by decide +kernel
theorem dX6_goAlong_54 : decode cX6_goAlong 54 = .ok (.getfield 9, 3) := by decide +kernel
theorem dX6_goAlong_57 : decode cX6_goAlong 57 = .ok (.iload_n 3, 1) := by decide +kernel
theorem dX6_goAlong_58 : decode cX6_goAlong 58 = .ok (.iastore, 1) := by decide +kernel
theorem dX6_goAlong_59 : decode cX6_goAlong 59 = .ok (.aload_n 0, 1) := by decide +kernel
theorem dX6_goAlong_60 : decode cX6_goAlong 60 = .ok (.dup, 1) := by decide +kernel
theorem dX6_goAlong_61 : decode cX6_goAlong 61 = .ok (.getfield 9, 3) := by decide +kernel
theorem dX6_goAlong_64 : decode cX6_goAlong 64 = .ok (.iconst 1, 1) := by decide +kernel
theorem dX6_goAlong_65 : decode cX6_goAlong 65 = .ok (.iadd, 1) := by decide +kernel
theorem dX6_goAlong_66 : decode cX6_goAlong 66 = .ok (.putfield 9, 3) := by decide +kernel
theorem dX6_goAlong_69 : decode cX6_goAlong 69 = .ok (.aload_n 0, 1) := by decide +kernel
theorem dX6_goAlong_70 : decode cX6_goAlong 70 = .ok (.getfield 25, 3) := by decide +kernel
theorem dX6_goAlong_73 : decode cX6_goAlong 73 = .ok (.iload_n 2, 1) := by decide +kernel
theorem dX6_goAlong_74 : decode cX6_goAlong 74 = .ok (.iconst 1, 1) := by decide +kernel
theorem dX6_goAlong_75 : decode cX6_goAlong 75 = .ok (.bastore, 1) := by decide +kernel
theorem dX6_goAlong_76 : decode cX6_goAlong 76 = .ok (.aload_n 0, 1) := by decide +kernel
theorem dX6_goAlong_77 : decode cX6_goAlong 77 = .ok (.aload_n 1, 1) := by decide +kernel
theorem dX6_goAlong_78 : decode cX6_goAlong 78 = .ok (.iload_n 2, 1) := by decide +kernel
theorem dX6_goAlong_79 : decode cX6_goAlong 79 = .ok (.iconst 1, 1) := by decide +kernel
theorem dX6_goAlong_80 : decode cX6_goAlong 80 = .ok (.iload_n 3, 1) := by decide +kernel
theorem dX6_goAlong_81 : decode cX6_goAlong 81 = .ok (.isub, 1) := by decide +kernel
theorem dX6_goAlong_82 : decode cX6_goAlong 82 = .ok (.invokevirtual 72, 3) := by decide +kernel
theorem dX6_goAlong_85 : decode cX6_goAlong 85 = .ok (.putfield 29, 3) := by decide +kernel
theorem dX6_goAlong_88 : decode cX6_goAlong 88 = .ok (.aload_n 0, 1) := by decide +kernel
theorem dX6_goAlong_89 : decode cX6_goAlong 89 = .ok (.aload_n 1, 1) := by decide +kernel
theorem dX6_goAlong_90 : decode cX6_goAlong 90 = .ok (.iload_n 2, 1) := by decide +kernel
theorem dX6_goAlong_91 : decode cX6_goAlong 91 = .ok (.iconst 1, 1) := by decide +kernel
theorem dX6_goAlong_92 : decode cX6_goAlong 92 = .ok (.iload_n 3, 1) := by decide +kernel
theorem dX6_goAlong_93 : decode cX6_goAlong 93 = .ok (.isub, 1) := by decide +kernel
theorem dX6_goAlong_94 : decode cX6_goAlong 94 = .ok (.invokevirtual 75, 3) := by decide +kernel
theorem dX6_goAlong_97 : decode cX6_goAlong 97 = .ok (.putfield 32, 3) := by decide +kernel
theorem dX6_goAlong_100 : decode cX6_goAlong 100 = .ok (.iload 4, 2) := by decide +kernel
theorem dX6_goAlong_102 : decode cX6_goAlong 102 = .ok (.ireturn, 1) := by decide +kernel
theorem dX7_init_0 : decode cX7_init 0 = .ok (.aload_n 0, 1) := by decide +kernel
theorem dX7_init_1 : decode cX7_init 1 = .ok (.invokespecial 1, 3) := by decide +kernel
theorem dX7_init_4 : decode cX7_init 4 = .ok (.aload_n 0, 1) := by decide +kernel
theorem dX7_init_5 : decode cX7_init 5 = .ok (.new 7, 3) := by decide +kernel
theorem dX7_init_8 : decode cX7_init 8 = .ok (.dup, 1) := by decide +kernel
theorem dX7_init_9 : decode cX7_init 9 = .ok (.invokespecial 9, 3) := by decide +kernel
theorem dX7_init_12 : decode cX7_init 12 = .ok (.putfield 10, 3) := by decide +kernel
theorem dX7_init_15 : decode cX7_init 15 = .ok (.aload_n 0, 1) := by decide +kernel
theorem dX7_init_16 : decode cX7_init 16 = .ok (.new 7, 3) := by decide +kernel
theorem dX7_init_19 : decode cX7_init 19 = .ok (.dup, 1) := by decide +kernel
theorem dX7_init_20 : decode cX7_init 20 = .ok (.invokespecial 9, 3) := by decide +kernel
theorem dX7_init_23 : decode cX7_init 23 = .ok (.putfield 16, 3) := by decide +kernel
theorem dX7_init_26 : decode cX7_init 26 = .ok (.aload_n 0, 1) := by decide +kernel
theorem dX7_init_27 : decode cX7_init 27 = .ok (.new 19, 3) := by decide +kernel
theorem dX7_init_30 : decode cX7_init 30 = .ok (.dup, 1) := by decide +kernel
theorem dX7_init_31 : decode cX7_init 31 = .ok (.invokespecial 21, 3) := by decide +kernel
theorem dX7_init_34 : decode cX7_init 34 = .ok (.putfield 22, 3) := by decide +kernel
theorem dX7_init_37 : decode cX7_init 37 = .ok (.aload_n 0, 1) := by decide +kernel
theorem dX7_init_38 : decode cX7_init 38 = .ok (.new 26, 3) := by decide +kernel
theorem dX7_init_41 : decode cX7_init 41 = .ok (.dup, 1) := by decide +kernel
theorem dX7_init_42 : decode cX7_init 42 = .ok (.invokespecial 28, 3) := by decide +kernel
theorem dX7_init_45 : decode cX7_init 45 = .ok (.putfield 29, 3) := by decide +kernel
theorem dX7_init_48 : decode cX7_init 48 = .ok (.aload_n 0, 1) := by decide +kernel
theorem dX7_init_49 : decode cX7_init 49 = .ok (.new 33, 3) := by decide +kernel
theorem dX7_init_52 : decode cX7_init 52 = .ok (.dup, 1) := by decide +kernel
theorem dX7_init_53 : decode cX7_init 53 = .ok (.invokespecial 35, 3) := by decide +kernel
theorem dX7_init_56 : decode cX7_init 56 = .ok (.putfield 36, 3) := by decide +kernel
theorem dX7_init_59 : decode cX7_init 59 = .ok (.aload_n 0, 1) := by decide +kernel
theorem dX7_init_60 : decode cX7_init 60 = .ok (.new 40, 3) := by decide +kernel
theorem dX7_init_63 : decode cX7_init 63 = .ok (.dup, 1) := by decide +kernel
theorem dX7_init_64 : decode cX7_init 64 = .ok (.invokespecial 42, 3) := by decide +kernel
theorem dX7_init_67 : decode cX7_init 67 = .ok (.putfield 43, 3) := by decide +kernel
theorem dX7_init_70 : decode cX7_init 70 = .ok (.return_, 1) := by decide +kernel
theorem dX7_set_0 : decode cX7_set 0 = .ok (.iload_n 1, 1) := by decide +kernel
theorem dX7_set_1 : decode cX7_set 1 = .ok (.iconst 0, 1) := by decide +kernel
theorem dX7_set_2 : decode cX7_set 2 = .ok (.iconst 4, 1) := by decide +kernel
theorem dX7_set_3 : decode cX7_set 3 = .ok (.invokestatic 47, 3) := by decide +kernel
theorem dX7_set_6 : decode cX7_set 6 = .ok (.ifCond .eq 20, 3) := by decide +kernel
theorem dX7_set_9 : decode cX7_set 9 = .ok (.iload_n 2, 1) := by decide +kernel
theorem dX7_set_10 : decode cX7_set 10 = .ok (.getstatic 51, 3) := by decide +kernel
theorem dX7_set_13 : decode cX7_set 13 = .ok (.iload_n 1, 1) := by decide +kernel
theorem dX7_set_14 : decode cX7_set 14 = .ok (.iaload, 1) := by decide +kernel
theorem dX7_set_15 : decode cX7_set 15 = .ok (.getstatic 55, 3) := by decide +kernel
theorem dX7_set_18 : decode cX7_set 18 = .ok (.iload_n 1, 1) := by decide +kernel
theorem dX7_set_19 : decode cX7_set 19 = .ok (.iaload, 1) := by decide +kernel
theorem dX7_set_20 : decode cX7_set 20 = .ok (.invokestatic 47, 3) := by decide +kernel
theorem dX7_set_23 : decode cX7_set 23 = .ok (.ifCond .ne 6, 3) := by decide +kernel
theorem dX7_set_26 : decode cX7_set 26 = .ok (.ldc 58, 2) := by decide +kernel
theorem dX7_set_28 : decode cX7_set 28 = .ok (.ireturn, 1) := by decide +kernel
theorem dX7_set_29 : decode cX7_set 29 = .ok (.aload_n 0, 1) := by decide +kernel
theorem dX7_set_30 : decode cX7_set 30 = .ok (.getfield 22, 3) := by decide +kernel
theorem dX7_set_33 : decode cX7_set 33 = .ok (.aload_n 0, 1) := by decide +kernel
theorem dX7_set_34 : decode cX7_set 34 = .ok (.getfield 10, 3) := by decide +kernel
theorem dX7_set_37 : decode cX7_set 37 = .ok (.invokevirtual 59, 3) := by decide +kernel
theorem dX7_set_40 : decode cX7_set 40 = .ok (.aload_n 0, 1) := by decide +kernel
theorem dX7_set_41 : decode cX7_set 41 = .ok (.getfield 10, 3) := by decide +kernel
theorem dX7_set_44 : decode cX7_set 44 = .ok (.getfield 63, 3) := by decide +kernel
theorem dX7_set_47 : decode cX7_set 47 = .ok (.iload_n 1, 1) := by decide +kernel
theorem dX7_set_48 : decode cX7_set 48 = .ok (.iaload, 1) := by decide +kernel
theorem dX7_set_49 : decode cX7_set 49 = .ok (.istore_n 3, 1) := by decide +kernel
theorem dX7_set_50 : decode cX7_set 50 = .ok (.aload_n 0, 1) := by decide +kernel
theorem dX7_set_51 : decode cX7_set 51 = .ok (.getfield 10, 3) := by decide +kernel
theorem dX7_set_54 : decode cX7_set 54 = .ok (.getfield 63, 3) := by decide +kernel
theorem dX7_set_57 : decode cX7_set 57 = .ok (.iload_n 1, 1) := by decide +kernel
theorem dX7_set_58 : decode cX7_set 58 = .ok (.iload_n 2, 1) := by decide +kernel
theorem dX7_set_59 : decode cX7_set 59 = .ok (.iastore, 1) := by decide +kernel
theorem dX7_set_60 : decode cX7_set 60 = .ok (.iload_n 3, 1) := by decide +kernel
theorem dX7_set_61 : decode cX7_set 61 = .ok (.ireturn, 1) := by decide +kernel
theorem dX7_pen_0 : decode cX7_pen 0 = .ok (.iload_n 1, 1) := by decide +kernel
theorem dX7_pen_1 : decode cX7_pen 1 = .ok (.iconst 0, 1) := by decide +kernel
theorem dX7_pen_2 : decode cX7_pen 2 = .ok (.iconst 1, 1) := by decide +kernel
theorem dX7_pen_3 : decode cX7_pen 3 = .ok (.invokestatic 47, 3) := by decide +kernel
theorem dX7_pen_6 : decode cX7_pen 6 = .ok (.ifCond .eq 34, 3) := by decide +kernel
theorem dX7_pen_9 : decode cX7_pen 9 = .ok (.iload_n 2, 1) := by decide +kernel
theorem dX7_pen_10 : decode cX7_pen 10 = .ok (.bipush 10, 2) := by decide +kernel
theorem dX7_pen_12 : decode cX7_pen 12 = .ok (.sipush 5000, 3) := by decide +kernel
theorem dX7_pen_15 : decode cX7_pen 15 = .ok (.invokestatic 47, 3) := by decide +kernel
theorem dX7_pen_18 : decode cX7_pen 18 = .ok (.ifCond .eq 22, 3) := by decide +kernel
theorem dX7_pen_21 : decode cX7_pen 21 = .ok (.iload_n 3, 1) := by decide +kernel
theorem dX7_pen_22 : decode cX7_pen 22 = .ok (.iconst 0, 1) := by decide +kernel
theorem dX7_pen_23 : decode cX7_pen 23 = .ok (.iconst 2, 1) := by decide +kernel
theorem dX7_pen_24 : decode cX7_pen 24 = .ok (.invokestatic 47, 3) := by decide +kernel
theorem dX7_pen_27 : decode cX7_pen 27 = .ok (.ifCond .eq 13, 3) := by decide +kernel
theorem dX7_pen_30 : decode cX7_pen 30 = .ok (.iload 4, 2) := by decide +kernel
theorem dX7_pen_32 : decode cX7_pen 32 = .ok (.iconst 0, 1) := by decide +kernel
theorem dX7_pen_33 : decode cX7_pen 33 = .ok (.iconst 1, 1) := by decide +kernel
theorem dX7_pen_34 : decode cX7_pen 34 = .ok (.invokestatic 47, 3) := by decide +kernel
theorem dX7_pen_37 : decode cX7_pen 37 = .ok (.ifCond .ne 6, 3) := by decide +kernel
theorem dX7_pen_40 : decode cX7_pen 40 = .ok (.ldc 58, 2) := by decide +kernel
theorem dX7_pen_42 : decode cX7_pen 42 = .ok (.ireturn, 1) := by decide +kernel
theorem dX7_pen_43 : decode cX7_pen 43 = .ok (.bipush 10, 2) := by decide +kernel
theorem dX7_pen_45 : decode cX7_pen 45 = .ok (.iload_n 3, 1) := by decide +kernel
theorem dX7_pen_46 : decode cX7_pen 46 = .ok (.imul, 1) := by decide +kernel
theorem dX7_pen_47 : decode cX7_pen 47 = .ok (.iload 4, 2) := by decide +kernel
theorem dX7_pen_49 : decode cX7_pen 49 = .ok (.iadd, 1) := by decide +kernel
theorem dX7_pen_50 : decode cX7_pen 50 = .ok (.istore 5, 2) := by decide +kernel
theorem dX7_pen_52 : decode cX7_pen 52 = .ok (.iload_n 3, 1) := by decide +kernel
theorem dX7_pen_53 : decode cX7_pen 53 = .ok (.iload_n 1, 1) := by decide +kernel
theorem dX7_pen_54 : decode cX7_pen 54 = .ok (.invokestatic 66, 3) := by decide +kernel
theorem dX7_pen_57 : decode cX7_pen 57 = .ok (.ifCond .eq 18, 3) := by decide +kernel
theorem dX7_pen_60 : decode cX7_pen 60 = .ok (.aload_n 0, 1) := by decide +kernel
theorem dX7_pen_61 : decode cX7_pen 61 = .ok (.getfield 10, 3) := by decide +kernel
theorem dX7_pen_64 : decode cX7_pen 64 = .ok (.getfield 70, 3) := by decide +kernel
theorem dX7_pen_67 : decode cX7_pen 67 = .ok (.iload 5, 2) := by decide +kernel
theorem dX7_pen_69 : decode cX7_pen 69 = .ok (.invokevirtual 74, 3) := by decide +kernel
theorem dX7_pen_72 : decode cX7_pen 72 = .ok (.ifCond .eq 6, 3) := by decide +kernel
theorem dX7_pen_75 : decode cX7_pen 75 = .ok (.ldc 80, 2) := by decide +kernel
theorem dX7_pen_77 : decode cX7_pen 77 = .ok (.ireturn, 1) := by decide +kernel
theorem dX7_pen_78 : decode cX7_pen 78 = .ok (.aload_n 0, 1) := by decide +kernel
theorem dX7_pen_79 : decode cX7_pen 79 = .ok (.getfield 10, 3) := by decide +kernel
theorem dX7_pen_82 : decode cX7_pen 82 = .ok (.getfield 70, 3) := by decide +kernel
theorem dX7_pen_85 : decode cX7_pen 85 = .ok (.getfield 81, 3) := by decide +kernel
theorem dX7_pen_88 : decode cX7_pen 88 = .ok (.iconst 5, 1) := by decide +kernel
theorem dX7_pen_89 : decode cX7_pen 89 = .ok (.if_icmp .lt 6, 3) := by decide +kernel
theorem dX7_pen_92 : decode cX7_pen 92 = .ok (.ldc 85, 2) := by decide +kernel
theorem dX7_pen_94 : decode cX7_pen 94 = .ok (.ireturn, 1) := by decide +kernel
theorem dX7_pen_95 : decode cX7_pen 95 = .ok (.aload_n 0, 1) := by decide +kernel
theorem dX7_pen_96 : decode cX7_pen 96 = .ok (.getfield 22, 3) := by decide +kernel
theorem dX7_pen_99 : decode cX7_pen 99 = .ok (.aload_n 0, 1) := by decide +kernel
theorem dX7_pen_100 : decode cX7_pen 100 = .ok (.getfield 10, 3) := by decide +kernel
theorem dX7_pen_103 : decode cX7_pen 103 = .ok (.invokevirtual 59, 3) := by decide +kernel
theorem dX7_pen_106 : decode cX7_pen 106 = .ok (.aload_n 0, 1) := by decide +kernel
theorem dX7_pen_107 : decode cX7_pen 107 = .ok (.getfield 10, 3) := by decide +kernel
theorem dX7_pen_110 : decode cX7_pen 110 = .ok (.getfield 70, 3) := by decide +kernel
theorem dX7_pen_113 : decode cX7_pen 113 = .ok (.iload_n 1, 1) := by decide +kernel
theorem dX7_pen_114 : decode cX7_pen 114 = .ok (.iload_n 2, 1) := by decide +kernel
theorem dX7_pen_115 : decode cX7_pen 115 = .ok (.iload 5, 2) := by decide +kernel
theorem dX7_pen_117 : decode cX7_pen 117 = .ok (.invokevirtual 86, 3) := by decide +kernel
theorem dX7_pen_120 : decode cX7_pen 120 = .ok (.ireturn, 1) := by decide +kernel
theorem dX7_line_0 : decode cX7_line 0 = .ok (.iload_n 1, 1) := by decide +kernel
theorem dX7_line_1 : decode cX7_line 1 = .ok (.iload_n 2, 1) := by decide +kernel
theorem dX7_line_2 : decode cX7_line 2 = .ok (.invokestatic 90, 3) := by decide +kernel
theorem dX7_line_5 : decode cX7_line 5 = .ok (.ifCond .eq 23, 3) := by decide +kernel
theorem dX7_line_8 : decode cX7_line 8 = .ok (.iload_n 3, 1) := by decide +kernel
theorem dX7_line_9 : decode cX7_line 9 = .ok (.iload 4, 2) := by decide +kernel
theorem dX7_line_11 : decode cX7_line 11 = .ok (.invokestatic 90, 3) := by decide +kernel
theorem dX7_line_14 : decode cX7_line 14 = .ok (.ifCond .eq 14, 3) := by decide +kernel
theorem dX7_line_17 : decode cX7_line 17 = .ok (.iload_n 1, 1) := by decide +kernel
theorem dX7_line_18 : decode cX7_line 18 = .ok (.iload_n 3, 1) := by decide +kernel
theorem dX7_line_19 : decode cX7_line 19 = .ok (.if_icmp .ne 12, 3) := by decide +kernel
theorem dX7_line_22 : decode cX7_line 22 = .ok (.iload_n 2, 1) := by decide +kernel
theorem dX7_line_23 : decode cX7_line 23 = .ok (.iload 4, 2) := by decide +kernel
theorem dX7_line_25 : decode cX7_line 25 = .ok (.if_icmp .ne 6, 3) := by decide +kernel
theorem dX7_line_28 : decode cX7_line 28 = .ok (.ldc 58, 2) := by decide +kernel
theorem dX7_line_30 : decode cX7_line 30 = .ok (.ireturn, 1) := by decide +kernel
theorem dX7_line_31 : decode cX7_line 31 = .ok (.aload_n 0, 1) := by decide +kernel
theorem dX7_line_32 : decode cX7_line 32 = .ok (.getfield 10, 3) := by decide +kernel
theorem dX7_line_35 : decode cX7_line 35 = .ok (.getfield 93, 3) := by decide +kernel
theorem dX7_line_38 : decode cX7_line 38 = .ok (.getfield 97, 3) := by decide +kernel
theorem dX7_line_41 : decode cX7_line 41 = .ok (.bipush 16, 2) := by decide +kernel
theorem dX7_line_43 : decode cX7_line 43 = .ok (.if_icmp .lt 6, 3) := by decide +kernel
theorem dX7_line_46 : decode cX7_line 46 = .ok (.ldc 85, 2) := by decide +kernel
theorem dX7_line_48 : decode cX7_line 48 = .ok (.ireturn, 1) := by decide +kernel
theorem dX7_line_49 : decode cX7_line 49 = .ok (.aload_n 0, 1) := by decide +kernel
theorem dX7_line_50 : decode cX7_line 50 = .ok (.getfield 22, 3) := by decide +kernel
theorem dX7_line_53 : decode cX7_line 53 = .ok (.aload_n 0, 1) := by decide +kernel
theorem dX7_line_54 : decode cX7_line 54 = .ok (.getfield 10, 3) := by decide +kernel
theorem dX7_line_57 : decode cX7_line 57 = .ok (.invokevirtual 59, 3) := by decide +kernel
theorem dX7_line_60 : decode cX7_line 60 = .ok (.aload_n 0, 1) := by decide +kernel
theorem dX7_line_61 : decode cX7_line 61 = .ok (.getfield 10, 3) := by decide +kernel
theorem dX7_line_64 : decode cX7_line 64 = .ok (.getfield 93, 3) := by decide +kernel
theorem dX7_line_67 : decode cX7_line 67 = .ok (.iload_n 1, 1) := by decide +kernel
theorem dX7_line_68 : decode cX7_line 68 = .ok (.iload_n 2, 1) := by decide +kernel
theorem dX7_line_69 : decode cX7_line 69 = .ok (.iload_n 3, 1) := by decide +kernel
theorem dX7_line_70 : decode cX7_line 70 = .ok (.iload 4, 2) := by decide +kernel
theorem dX7_line_72 : decode cX7_line 72 = .ok (.invokevirtual 100, 3) := by decide +kernel
theorem dX7_line_75 : decode cX7_line 75 = .ok (.ireturn, 1) := by decide +kernel
theorem dX7_leave_0 : decode cX7_leave 0 = .ok (.aload_n 0, 1) := by decide +kernel
theorem dX7_leave_1 : decode cX7_leave 1 = .ok (.getfield 10, 3) := by decide +kernel
theorem dX7_leave_4 : decode cX7_leave 4 = .ok (.getfield 70, 3) := by decide +kernel
theorem dX7_leave_7 : decode cX7_leave 7 = .ok (.iload_n 1, 1) := by decide +kernel
theorem dX7_leave_8 : decode cX7_leave 8 = .ok (.invokevirtual 103, 3) := by decide +kernel
theorem dX7_leave_11 : decode cX7_leave 11 = .ok (.ifCond .eq 12, 3) := by decide +kernel
theorem dX7_leave_14 : decode cX7_leave 14 = .ok (.iload_n 2, 1) := by decide +kernel
theorem dX7_leave_15 : decode cX7_leave 15 = .ok (.iconst 0, 1) := by decide +kernel
theorem dX7_leave_16 : decode cX7_leave 16 = .ok (.iconst 1, 1) := by decide +kernel
theorem dX7_leave_17 : decode cX7_leave 17 = .ok (.invokestatic 47, 3) := by decide +kernel
theorem dX7_leave_20 : decode cX7_leave 20 = .ok (.ifCond .ne 6, 3) := by decide +kernel
theorem dX7_leave_23 : decode cX7_leave 23 = .ok (.ldc 58, 2) := by decide +kernel
theorem dX7_leave_25 : decode cX7_leave 25 = .ok (.ireturn, 1) := by decide +kernel
theorem dX7_leave_26 : decode cX7_leave 26 = .ok (.aload_n 0, 1) := by decide +kernel
theorem dX7_leave_27 : decode cX7_leave 27 = .ok (.getfield 10, 3) := by decide +kernel
theorem dX7_leave_30 : decode cX7_leave 30 = .ok (.getfield 70, 3) := by decide +kernel
theorem dX7_leave_33 : decode cX7_leave 33 = .ok (.getfield 106, 3) := by decide +kernel
theorem dX7_leave_36 : decode cX7_leave 36 = .ok (.iload_n 1, 1) := by decide +kernel
theorem dX7_leave_37 : decode cX7_leave 37 = .ok (.iaload, 1) := by decide +kernel
theorem dX7_leave_38 : decode cX7_leave 38 = .ok (.iload_n 2, 1) := by decide +kernel
theorem dX7_leave_39 : decode cX7_leave 39 = .ok (.if_icmp .eq 14, 3) := by decide +kernel
theorem dX7_leave_42 : decode cX7_leave 42 = .ok (.aload_n 0, 1) := by decide +kernel
theorem dX7_leave_43 : decode cX7_leave 43 = .ok (.getfield 10, 3) := by decide +kernel
theorem dX7_leave_46 : decode cX7_leave 46 = .ok (.getfield 109, 3) := by decide +kernel
theorem dX7_leave_49 : decode cX7_leave 49 = .ok (.iload_n 1, 1) := by decide +kernel
theorem dX7_leave_50 : decode cX7_leave 50 = .ok (.if_icmp .ne 6, 3) := by decide +kernel
theorem dX7_leave_53 : decode cX7_leave 53 = .ok (.ldc 80, 2) := by decide +kernel
theorem dX7_leave_55 : decode cX7_leave 55 = .ok (.ireturn, 1) := by decide +kernel
theorem dX7_leave_56 : decode cX7_leave 56 = .ok (.aload_n 0, 1) := by decide +kernel
theorem dX7_leave_57 : decode cX7_leave 57 = .ok (.getfield 22, 3) := by decide +kernel
theorem dX7_leave_60 : decode cX7_leave 60 = .ok (.aload_n 0, 1) := by decide +kernel
theorem dX7_leave_61 : decode cX7_leave 61 = .ok (.getfield 10, 3) := by decide +kernel
theorem dX7_leave_64 : decode cX7_leave 64 = .ok (.invokevirtual 59, 3) := by decide +kernel
theorem dX7_leave_67 : decode cX7_leave 67 = .ok (.aload_n 0, 1) := by decide +kernel
theorem dX7_leave_68 : decode cX7_leave 68 = .ok (.getfield 10, 3) := by decide +kernel
theorem dX7_leave_71 : decode cX7_leave 71 = .ok (.getfield 70, 3) := by decide +kernel
theorem dX7_leave_74 : decode cX7_leave 74 = .ok (.getfield 106, 3) := by decide +kernel
theorem dX7_leave_77 : decode cX7_leave 77 = .ok (.iload_n 1, 1) := by decide +kernel
theorem dX7_leave_78 : decode cX7_leave 78 = .ok (.iload_n 2, 1) := by decide +kernel
theorem dX7_leave_79 : decode cX7_leave 79 = .ok (.iastore, 1) := by decide +kernel
theorem dX7_leave_80 : decode cX7_leave 80 = .ok (.aload_n 0, 1) := by decide +kernel
theorem dX7_leave_81 : decode cX7_leave 81 = .ok (.getfield 10, 3) := by decide +kernel
theorem dX7_leave_84 : decode cX7_leave 84 = .ok (.getfield 70, 3) := by decide +kernel
theorem dX7_leave_87 : decode cX7_leave 87 = .ok (.invokevirtual 112, 3) := by decide +kernel
theorem dX7_leave_90 : decode cX7_leave 90 = .ok (.ireturn, 1) := by decide +kernel
theorem dX7_refill_0 : decode cX7_refill 0 = .ok (.aload_n 0, 1) := by decide +kernel
theorem dX7_refill_1 : decode cX7_refill 1 = .ok (.getfield 10, 3) := by decide +kernel
theorem dX7_refill_4 : decode cX7_refill 4 = .ok (.getfield 70, 3) := by decide +kernel
theorem dX7_refill_7 : decode cX7_refill 7 = .ok (.iload_n 1, 1) := by decide +kernel
theorem dX7_refill_8 : decode cX7_refill 8 = .ok (.invokevirtual 103, 3) := by decide +kernel
theorem dX7_refill_11 : decode cX7_refill 11 = .ok (.ifCond .ne 6, 3) := by decide +kernel
theorem dX7_refill_14 : decode cX7_refill 14 = .ok (.ldc 58, 2) := by decide +kernel
