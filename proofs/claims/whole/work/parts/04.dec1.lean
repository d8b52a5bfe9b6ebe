theorem dX5_bestShift_72 : decode cX5_bestShift 72 = .ok (.istore 4, 2) := by decide +kernel
theorem dX5_bestShift_74 : decode cX5_bestShift 74 = .ok (.iload 7, 2) := by decide +kernel
theorem dX5_bestShift_76 : decode cX5_bestShift 76 = .ok (.istore_n 3, 1) := by decide +kernel
theorem dX5_bestShift_77 : decode cX5_bestShift 77 = .ok (.iinc 5 1, 3) := by decide +kernel
theorem dX5_bestShift_80 : decode cX5_bestShift 80 = .ok (.goto (-72), 3) := by decide +kernel
theorem dX5_bestShift_83 : decode cX5_bestShift 83 = .ok (.aload_n 0, 1) := by decide +kernel
theorem dX5_bestShift_84 : decode cX5_bestShift 84 = .ok (.iload_n 1, 1) := by decide +kernel
theorem dX5_bestShift_85 : decode cX5_bestShift 85 = .ok (.iload_n 2, 1) := by decide +kernel
theorem dX5_bestShift_86 : decode cX5_bestShift 86 = .ok (.invokevirtual 54, 3) := by decide +kernel
theorem dX5_bestShift_89 : decode cX5_bestShift 89 = .ok (.iload_n 3, 1) := by decide +kernel
theorem dX5_bestShift_90 : decode cX5_bestShift 90 = .ok (.ireturn, 1) := by decide +kernel
theorem dX5_isWrong_0 : decode cX5_isWrong 0 = .ok (.aload_n 0, 1) := by decide +kernel
theorem dX5_isWrong_1 : decode cX5_isWrong 1 = .ok (.getfield 37, 3) := by decide +kernel
theorem dX5_isWrong_4 : decode cX5_isWrong 4 = .ok (.getfield 67, 3) := by decide +kernel
theorem dX5_isWrong_7 : decode cX5_isWrong 7 = .ok (.iload_n 1, 1) := by decide +kernel
theorem dX5_isWrong_8 : decode cX5_isWrong 8 = .ok (.iaload, 1) := by decide +kernel
theorem dX5_isWrong_9 : decode cX5_isWrong 9 = .ok (.istore_n 2, 1) := by decide +kernel
theorem dX5_isWrong_10 : decode cX5_isWrong 10 = .ok (.iload_n 2, 1) := by decide +kernel
theorem dX5_isWrong_11 : decode cX5_isWrong 11 = .ok (.ifCond .le 19, 3) := by decide +kernel
theorem dX5_isWrong_14 : decode cX5_isWrong 14 = .ok (.iload_n 2, 1) := by decide +kernel
theorem dX5_isWrong_15 : decode cX5_isWrong 15 = .ok (.iload_n 1, 1) := by decide +kernel
theorem dX5_isWrong_16 : decode cX5_isWrong 16 = .ok (.aload_n 0, 1) := by decide +kernel
theorem dX5_isWrong_17 : decode cX5_isWrong 17 = .ok (.getfield 11, 3) := by decide +kernel
theorem dX5_isWrong_20 : decode cX5_isWrong 20 = .ok (.iload_n 1, 1) := by decide +kernel
theorem dX5_isWrong_21 : decode cX5_isWrong 21 = .ok (.iaload, 1) := by decide +kernel
theorem dX5_isWrong_22 : decode cX5_isWrong 22 = .ok (.iadd, 1) := by decide +kernel
theorem dX5_isWrong_23 : decode cX5_isWrong 23 = .ok (.if_icmp .eq 7, 3) := by decide +kernel
theorem dX5_isWrong_26 : decode cX5_isWrong 26 = .ok (.iconst 1, 1) := by decide +kernel
theorem dX5_isWrong_27 : decode cX5_isWrong 27 = .ok (.goto 4, 3) := by decide +kernel
theorem dX5_isWrong_30 : decode cX5_isWrong 30 = .ok (.iconst 0, 1) := by decide +kernel
theorem dX5_isWrong_31 : decode cX5_isWrong 31 = .ok (.ireturn, 1) := by decide +kernel
theorem dX6_init_0 : decode cX6_init 0 = .ok (.aload_n 0, 1) := by decide +kernel
theorem dX6_init_1 : decode cX6_init 1 = .ok (.invokespecial 3, 3) := by decide +kernel
theorem dX6_init_4 : decode cX6_init 4 = .ok (.aload_n 0, 1) := by decide +kernel
theorem dX6_init_5 : decode cX6_init 5 = .ok (.bipush 20, 2) := by decide +kernel
theorem dX6_init_7 : decode cX6_init 7 = .ok (.newarray .boolean, 2) := by decide +kernel
theorem dX6_init_9 : decode cX6_init 9 = .ok (.putfield 9, 3) := by decide +kernel
theorem dX6_init_12 : decode cX6_init 12 = .ok (.aload_n 0, 1) := by decide +kernel
theorem dX6_init_13 : decode cX6_init 13 = .ok (.bipush 20, 2) := by decide +kernel
theorem dX6_init_15 : decode cX6_init 15 = .ok (.newarray .int, 2) := by decide +kernel
theorem dX6_init_17 : decode cX6_init 17 = .ok (.putfield 15, 3) := by decide +kernel
theorem dX6_init_20 : decode cX6_init 20 = .ok (.aload_n 0, 1) := by decide +kernel
theorem dX6_init_21 : decode cX6_init 21 = .ok (.bipush 60, 2) := by decide +kernel
theorem dX6_init_23 : decode cX6_init 23 = .ok (.newarray .int, 2) := by decide +kernel
theorem dX6_init_25 : decode cX6_init 25 = .ok (.putfield 19, 3) := by decide +kernel
theorem dX6_init_28 : decode cX6_init 28 = .ok (.aload_n 0, 1) := by decide +kernel
theorem dX6_init_29 : decode cX6_init 29 = .ok (.iconst 0, 1) := by decide +kernel
theorem dX6_init_30 : decode cX6_init 30 = .ok (.putfield 22, 3) := by decide +kernel
theorem dX6_init_33 : decode cX6_init 33 = .ok (.aload_n 0, 1) := by decide +kernel
theorem dX6_init_34 : decode cX6_init 34 = .ok (.iconst 0, 1) := by decide +kernel
theorem dX6_init_35 : decode cX6_init 35 = .ok (.putfield 26, 3) := by decide +kernel
theorem dX6_init_38 : decode cX6_init 38 = .ok (.aload_n 0, 1) := by decide +kernel
theorem dX6_init_39 : decode cX6_init 39 = .ok (.iconst 4, 1) := by decide +kernel
theorem dX6_init_40 : decode cX6_init 40 = .ok (.newarray .int, 2) := by decide +kernel
theorem dX6_init_42 : decode cX6_init 42 = .ok (.putfield 29, 3) := by decide +kernel
theorem dX6_init_45 : decode cX6_init 45 = .ok (.aload_n 0, 1) := by decide +kernel
theorem dX6_init_46 : decode cX6_init 46 = .ok (.sipush 2744, 3) := by decide +kernel
theorem dX6_init_49 : decode cX6_init 49 = .ok (.newarray .long, 2) := by decide +kernel
theorem dX6_init_51 : decode cX6_init 51 = .ok (.putfield 34, 3) := by decide +kernel
theorem dX6_init_54 : decode cX6_init 54 = .ok (.aload_n 0, 1) := by decide +kernel
theorem dX6_init_55 : decode cX6_init 55 = .ok (.sipush 2744, 3) := by decide +kernel
theorem dX6_init_58 : decode cX6_init 58 = .ok (.newarray .long, 2) := by decide +kernel
theorem dX6_init_60 : decode cX6_init 60 = .ok (.putfield 38, 3) := by decide +kernel
theorem dX6_init_63 : decode cX6_init 63 = .ok (.aload_n 0, 1) := by decide +kernel
theorem dX6_init_64 : decode cX6_init 64 = .ok (.sipush 2744, 3) := by decide +kernel
theorem dX6_init_67 : decode cX6_init 67 = .ok (.newarray .int, 2) := by decide +kernel
theorem dX6_init_69 : decode cX6_init 69 = .ok (.putfield 41, 3) := by decide +kernel
theorem dX6_init_72 : decode cX6_init 72 = .ok (.aload_n 0, 1) := by decide +kernel
theorem dX6_init_73 : decode cX6_init 73 = .ok (.sipush 2744, 3) := by decide +kernel
theorem dX6_init_76 : decode cX6_init 76 = .ok (.newarray .int, 2) := by decide +kernel
theorem dX6_init_78 : decode cX6_init 78 = .ok (.putfield 44, 3) := by decide +kernel
theorem dX6_init_81 : decode cX6_init 81 = .ok (.aload_n 0, 1) := by decide +kernel
theorem dX6_init_82 : decode cX6_init 82 = .ok (.iconst 0, 1) := by decide +kernel
theorem dX6_init_83 : decode cX6_init 83 = .ok (.putfield 47, 3) := by decide +kernel
theorem dX6_init_86 : decode cX6_init 86 = .ok (.aload_n 0, 1) := by decide +kernel
theorem dX6_init_87 : decode cX6_init 87 = .ok (.iconst 0, 1) := by decide +kernel
theorem dX6_init_88 : decode cX6_init 88 = .ok (.putfield 50, 3) := by decide +kernel
theorem dX6_init_91 : decode cX6_init 91 = .ok (.aload_n 0, 1) := by decide +kernel
theorem dX6_init_92 : decode cX6_init 92 = .ok (.aload_n 1, 1) := by decide +kernel
theorem dX6_init_93 : decode cX6_init 93 = .ok (.putfield 53, 3) := by decide +kernel
theorem dX6_init_96 : decode cX6_init 96 = .ok (.aload_n 0, 1) := by decide +kernel
theorem dX6_init_97 : decode cX6_init 97 = .ok (.aload_n 2, 1) := by decide +kernel
theorem dX6_init_98 : decode cX6_init 98 = .ok (.putfield 57, 3) := by decide +kernel
theorem dX6_init_101 : decode cX6_init 101 = .ok (.aload_n 0, 1) := by decide +kernel
theorem dX6_init_102 : decode cX6_init 102 = .ok (.new 32, 3) := by decide +kernel
theorem dX6_init_105 : decode cX6_init 105 = .ok (.dup, 1) := by decide +kernel
theorem dX6_init_106 : decode cX6_init 106 = .ok (.aload_n 1, 1) := by decide +kernel
theorem dX6_init_107 : decode cX6_init 107 = .ok (.invokespecial 61, 3) := by decide +kernel
theorem dX6_init_110 : decode cX6_init 110 = .ok (.putfield 64, 3) := by decide +kernel
theorem dX6_init_113 : decode cX6_init 113 = .ok (.aload_n 0, 1) := by decide +kernel
theorem dX6_init_114 : decode cX6_init 114 = .ok (.getfield 34, 3) := by decide +kernel
theorem dX6_init_117 : decode cX6_init 117 = .ok (.ldc2_w 68, 3) := by decide +kernel
theorem dX6_init_120 : decode cX6_init 120 = .ok (.invokestatic 70, 3) := by decide +kernel
theorem dX6_init_123 : decode cX6_init 123 = .ok (.aload_n 0, 1) := by decide +kernel
theorem dX6_init_124 : decode cX6_init 124 = .ok (.getfield 38, 3) := by decide +kernel
theorem dX6_init_127 : decode cX6_init 127 = .ok (.ldc2_w 68, 3) := by decide +kernel
theorem dX6_init_130 : decode cX6_init 130 = .ok (.invokestatic 70, 3) := by decide +kernel
theorem dX6_init_133 : decode cX6_init 133 = .ok (.return_, 1) := by decide +kernel
theorem dX6_search_0 : decode cX6_search 0 = .ok (.iconst 0, 1) := by decide +kernel
theorem dX6_search_1 : decode cX6_search 1 = .ok (.istore_n 1, 1) := by decide +kernel
theorem dX6_search_2 : decode cX6_search 2 = .ok (.iload_n 1, 1) := by decide +kernel
theorem dX6_search_3 : decode cX6_search 3 = .ok (.aload_n 0, 1) := by decide +kernel
theorem dX6_search_4 : decode cX6_search 4 = .ok (.getfield 53, 3) := by decide +kernel
theorem dX6_search_7 : decode cX6_search 7 = .ok (.getfield 76, 3) := by decide +kernel
theorem dX6_search_10 : decode cX6_search 10 = .ok (.if_icmp .ge 30, 3) := by decide +kernel
theorem dX6_search_13 : decode cX6_search 13 = .ok (.aload_n 0, 1) := by decide +kernel
theorem dX6_search_14 : decode cX6_search 14 = .ok (.getfield 9, 3) := by decide +kernel
theorem dX6_search_17 : decode cX6_search 17 = .ok (.iload_n 1, 1) := by decide +kernel
theorem dX6_search_18 : decode cX6_search 18 = .ok (.aload_n 0, 1) := by decide +kernel
theorem dX6_search_19 : decode cX6_search 19 = .ok (.getfield 53, 3) := by decide +kernel
theorem dX6_search_22 : decode cX6_search 22 = .ok (.iload_n 1, 1) := by decide +kernel
theorem dX6_search_23 : decode cX6_search 23 = .ok (.aload_n 0, 1) := by decide +kernel
theorem dX6_search_24 : decode cX6_search 24 = .ok (.getfield 57, 3) := by decide +kernel
theorem dX6_search_27 : decode cX6_search 27 = .ok (.getfield 81, 3) := by decide +kernel
theorem dX6_search_30 : decode cX6_search 30 = .ok (.invokevirtual 86, 3) := by decide +kernel
theorem dX6_search_33 : decode cX6_search 33 = .ok (.bastore, 1) := by decide +kernel
theorem dX6_search_34 : decode cX6_search 34 = .ok (.iinc 1 1, 3) := by decide +kernel
theorem dX6_search_37 : decode cX6_search 37 = .ok (.goto (-35), 3) := by decide +kernel
theorem dX6_search_40 : decode cX6_search 40 = .ok (.aload_n 0, 1) := by decide +kernel
theorem dX6_search_41 : decode cX6_search 41 = .ok (.iconst 1, 1) := by decide +kernel
theorem dX6_search_42 : decode cX6_search 42 = .ok (.putfield 47, 3) := by decide +kernel
theorem dX6_search_45 : decode cX6_search 45 = .ok (.aload_n 0, 1) := by decide +kernel
theorem dX6_search_46 : decode cX6_search 46 = .ok (.getfield 41, 3) := by decide +kernel
theorem dX6_search_49 : decode cX6_search 49 = .ok (.iconst 0, 1) := by decide +kernel
theorem dX6_search_50 : decode cX6_search 50 = .ok (.iconst 0, 1) := by decide +kernel
theorem dX6_search_51 : decode cX6_search 51 = .ok (.iastore, 1) := by decide +kernel
theorem dX6_search_52 : decode cX6_search 52 = .ok (.aload_n 0, 1) := by decide +kernel
theorem dX6_search_53 : decode cX6_search 53 = .ok (.getfield 34, 3) := by decide +kernel
theorem dX6_search_56 : decode cX6_search 56 = .ok (.iconst 0, 1) := by decide +kernel
theorem dX6_search_57 : decode cX6_search 57 = .ok (.lconst 0, 1) := by decide +kernel
theorem dX6_search_58 : decode cX6_search 58 = .ok (.lastore, 1) := by decide +kernel
theorem dX6_search_59 : decode cX6_search 59 = .ok (.iconst 0, 1) := by decide +kernel
theorem dX6_search_60 : decode cX6_search 60 = .ok (.istore_n 1, 1) := by decide +kernel
theorem dX6_search_61 : decode cX6_search 61 = .ok (.iload_n 1, 1) := by decide +kernel
theorem dX6_search_62 : decode cX6_search 62 = .ok (.aload_n 0, 1) := by decide +kernel
theorem dX6_search_63 : decode cX6_search 63 = .ok (.getfield 53, 3) := by decide +kernel
theorem dX6_search_66 : decode cX6_search 66 = .ok (.getfield 76, 3) := by decide +kernel
theorem dX6_search_69 : decode cX6_search 69 = .ok (.if_icmp .ge 19, 3) := by decide +kernel
theorem dX6_search_72 : decode cX6_search 72 = .ok (.aload_n 0, 1) := by decide +kernel
theorem dX6_search_73 : decode cX6_search 73 = .ok (.iload_n 1, 1) := by decide +kernel
theorem dX6_search_74 : decode cX6_search 74 = .ok (.invokevirtual 90, 3) := by decide +kernel
theorem dX6_search_77 : decode cX6_search 77 = .ok (.aload_n 0, 1) := by decide +kernel
theorem dX6_search_78 : decode cX6_search 78 = .ok (.iload_n 1, 1) := by decide +kernel
theorem dX6_search_79 : decode cX6_search 79 = .ok (.invokevirtual 94, 3) := by decide +kernel
theorem dX6_search_82 : decode cX6_search 82 = .ok (.iinc 1 1, 3) := by decide +kernel
theorem dX6_search_85 : decode cX6_search 85 = .ok (.goto (-24), 3) := by decide +kernel
theorem dX6_search_88 : decode cX6_search 88 = .ok (.aload_n 0, 1) := by decide +kernel
theorem dX6_search_89 : decode cX6_search 89 = .ok (.aload_n 0, 1) := by decide +kernel
theorem dX6_search_90 : decode cX6_search 90 = .ok (.invokevirtual 97, 3) := by decide +kernel
theorem dX6_search_93 : decode cX6_search 93 = .ok (.invokevirtual 101, 3) := by decide +kernel
theorem dX6_search_96 : decode cX6_search 96 = .ok (.aload_n 0, 1) := by decide +kernel
theorem dX6_search_97 : decode cX6_search 97 = .ok (.invokevirtual 105, 3) := by decide +kernel
theorem dX6_search_100 : decode cX6_search 100 = .ok (.return_, 1) := by decide +kernel
theorem dX6_findCapsBehind_0 : decode cX6_findCapsBehind 0 = .ok (.iconst 1, 1) := by decide +kernel
theorem dX6_findCapsBehind_1 : decode cX6_findCapsBehind 1 = .ok (.istore_n 2, 1) := by decide +kernel
theorem dX6_findCapsBehind_2 : decode cX6_findCapsBehind 2 = .ok (.iload_n 2, 1) := by decide +kernel
theorem dX6_findCapsBehind_3 : decode cX6_findCapsBehind 3 = .ok (.iconst 3, 1) := by decide +kernel
theorem dX6_findCapsBehind_4 : decode cX6_findCapsBehind 4 = .ok (.if_icmp .gt 58, 3) := by decide +kernel
theorem dX6_findCapsBehind_7 : decode cX6_findCapsBehind 7 = .ok (.iconst 0, 1) := by decide +kernel
theorem dX6_findCapsBehind_8 : decode cX6_findCapsBehind 8 = .ok (.istore_n 3, 1) := by decide +kernel
theorem dX6_findCapsBehind_9 : decode cX6_findCapsBehind 9 = .ok (.iload_n 1, 1) := by decide +kernel
theorem dX6_findCapsBehind_10 : decode cX6_findCapsBehind 10 = .ok (.iconst 1, 1) := by decide +kernel
theorem dX6_findCapsBehind_11 : decode cX6_findCapsBehind 11 = .ok (.iadd, 1) := by decide +kernel
theorem dX6_findCapsBehind_12 : decode cX6_findCapsBehind 12 = .ok (.istore 4, 2) := by decide +kernel
theorem dX6_findCapsBehind_14 : decode cX6_findCapsBehind 14 = .ok (.iload 4, 2) := by decide +kernel
theorem dX6_findCapsBehind_16 : decode cX6_findCapsBehind 16 = .ok (.aload_n 0, 1) := by decide +kernel
theorem dX6_findCapsBehind_17 : decode cX6_findCapsBehind 17 = .ok (.getfield 53, 3) := by decide +kernel
theorem dX6_findCapsBehind_20 : decode cX6_findCapsBehind 20 = .ok (.getfield 76, 3) := by decide +kernel
theorem dX6_findCapsBehind_23 : decode cX6_findCapsBehind 23 = .ok (.if_icmp .ge 24, 3) := by decide +kernel
theorem dX6_findCapsBehind_26 : decode cX6_findCapsBehind 26 = .ok (.iload_n 3, 1) := by decide +kernel
theorem dX6_findCapsBehind_27 : decode cX6_findCapsBehind 27 = .ok (.aload_n 0, 1) := by decide +kernel
theorem dX6_findCapsBehind_28 : decode cX6_findCapsBehind 28 = .ok (.getfield 53, 3) := by decide +kernel
theorem dX6_findCapsBehind_31 : decode cX6_findCapsBehind 31 = .ok (.iload 4, 2) := by decide +kernel
theorem dX6_findCapsBehind_33 : decode cX6_findCapsBehind 33 = .ok (.iload_n 2, 1) := by decide +kernel
theorem dX6_findCapsBehind_34 : decode cX6_findCapsBehind 34 = .ok (.invokevirtual 108, 3) := by decide +kernel
theorem dX6_findCapsBehind_37 : decode cX6_findCapsBehind 37 = .ok (.invokestatic 112, 3) := by decide +kernel
theorem dX6_findCapsBehind_40 : decode cX6_findCapsBehind 40 = .ok (.istore_n 3, 1) := by decide +kernel
theorem dX6_findCapsBehind_41 : decode cX6_findCapsBehind 41 = .ok (.iinc 4 1, 3) := by decide +kernel
theorem dX6_findCapsBehind_44 : decode cX6_findCapsBehind 44 = .ok (.goto (-30), 3) := by decide +kernel
theorem dX6_findCapsBehind_47 : decode cX6_findCapsBehind 47 = .ok (.aload_n 0, 1) := by decide +kernel
theorem dX6_findCapsBehind_48 : decode cX6_findCapsBehind 48 = .ok (.getfield 29, 3) := by decide +kernel
theorem dX6_findCapsBehind_51 : decode cX6_findCapsBehind 51 = .ok (.iload_n 2, 1) := by decide +kernel
theorem dX6_findCapsBehind_52 : decode cX6_findCapsBehind 52 = .ok (.iload_n 3, 1) := by decide +kernel
theorem dX6_findCapsBehind_53 : decode cX6_findCapsBehind 53 = .ok (.iconst 1, 1) := by decide +kernel
theorem dX6_findCapsBehind_54 : decode cX6_findCapsBehind 54 = .ok (.iadd, 1) := by decide +kernel
theorem dX6_findCapsBehind_55 : decode cX6_findCapsBehind 55 = .ok (.iastore, 1) := by decide +kernel
theorem dX6_findCapsBehind_56 : decode cX6_findCapsBehind 56 = .ok (.iinc 2 1, 3) := by decide +kernel
theorem dX6_findCapsBehind_59 : decode cX6_findCapsBehind 59 = .ok (.goto (-57), 3) := by decide +kernel
theorem dX6_findCapsBehind_62 : decode cX6_findCapsBehind 62 = .ok (.return_, 1) := by decide +kernel
theorem dX6_passLine_0 : decode cX6_passLine 0 = .ok (.aload_n 0, 1) := by decide +kernel
theorem dX6_passLine_1 : decode cX6_passLine 1 = .ok (.getfield 9, 3) := by decide +kernel
theorem dX6_passLine_4 : decode cX6_passLine 4 = .ok (.iload_n 1, 1) := by decide +kernel
theorem dX6_passLine_5 : decode cX6_passLine 5 = .ok (.baload, 1) := by decide +kernel
theorem dX6_passLine_6 : decode cX6_passLine 6 = .ok (.ifCond .eq 7, 3) := by decide +kernel
theorem dX6_passLine_9 : decode cX6_passLine 9 = .ok (.iconst 0, 1) := by decide +kernel
theorem dX6_passLine_10 : decode cX6_passLine 10 = .ok (.goto 4, 3) := by decide +kernel
theorem dX6_passLine_13 : decode cX6_passLine 13 = .ok (.iconst 3, 1) := by decide +kernel
theorem dX6_passLine_14 : decode cX6_passLine 14 = .ok (.istore_n 2, 1) := by decide +kernel
theorem dX6_passLine_15 : decode cX6_passLine 15 = .ok (.aload_n 0, 1) := by decide +kernel
theorem dX6_passLine_16 : decode cX6_passLine 16 = .ok (.iconst 0, 1) := by decide +kernel
theorem dX6_passLine_17 : decode cX6_passLine 17 = .ok (.putfield 50, 3) := by decide +kernel
theorem dX6_passLine_20 : decode cX6_passLine 20 = .ok (.iconst 0, 1) := by decide +kernel
theorem dX6_passLine_21 : decode cX6_passLine 21 = .ok (.istore_n 3, 1) := by decide +kernel
theorem dX6_passLine_22 : decode cX6_passLine 22 = .ok (.iload_n 3, 1) := by decide +kernel
theorem dX6_passLine_23 : decode cX6_passLine 23 = .ok (.aload_n 0, 1) := by decide +kernel
theorem dX6_passLine_24 : decode cX6_passLine 24 = .ok (.getfield 47, 3) := by decide +kernel
theorem dX6_passLine_27 : decode cX6_passLine 27 = .ok (.if_icmp .ge 87, 3) := by decide +kernel
theorem dX6_passLine_30 : decode cX6_passLine 30 = .ok (.aload_n 0, 1) := by decide +kernel
theorem dX6_passLine_31 : decode cX6_passLine 31 = .ok (.getfield 41, 3) := by decide +kernel
theorem dX6_passLine_34 : decode cX6_passLine 34 = .ok (.iload_n 3, 1) := by decide +kernel
theorem dX6_passLine_35 : decode cX6_passLine 35 = .ok (.iaload, 1) := by decide +kernel
theorem dX6_passLine_36 : decode cX6_passLine 36 = .ok (.istore 4, 2) := by decide +kernel
theorem dX6_passLine_38 : decode cX6_passLine 38 = .ok (.aload_n 0, 1) := by decide +kernel
theorem dX6_passLine_39 : decode cX6_passLine 39 = .ok (.getfield 34, 3) := by decide +kernel
theorem dX6_passLine_42 : decode cX6_passLine 42 = .ok (.iload 4, 2) := by decide +kernel
theorem dX6_passLine_44 : decode cX6_passLine 44 = .ok (.laload, 1) := by decide +kernel
theorem dX6_passLine_45 : decode cX6_passLine 45 = .ok (.lstore 5, 2) := by decide +kernel
theorem dX6_passLine_47 : decode cX6_passLine 47 = .ok (.aload_n 0, 1) := by decide +kernel
theorem dX6_passLine_48 : decode cX6_passLine 48 = .ok (.getfield 34, 3) := by decide +kernel
theorem dX6_passLine_51 : decode cX6_passLine 51 = .ok (.iload 4, 2) := by decide +kernel
theorem dX6_passLine_53 : decode cX6_passLine 53 = .ok (.ldc2_w 68, 3) := by decide +kernel
theorem dX6_passLine_56 : decode cX6_passLine 56 = .ok (.lastore, 1) := by decide +kernel
theorem dX6_passLine_57 : decode cX6_passLine 57 = .ok (.iconst 0, 1) := by decide +kernel
theorem dX6_passLine_58 : decode cX6_passLine 58 = .ok (.istore 7, 2) := by decide +kernel
theorem dX6_passLine_60 : decode cX6_passLine 60 = .ok (.iload 7, 2) := by decide +kernel
theorem dX6_passLine_62 : decode cX6_passLine 62 = .ok (.iload_n 2, 1) := by decide +kernel
theorem dX6_passLine_63 : decode cX6_passLine 63 = .ok (.if_icmp .gt 45, 3) := by decide +kernel
theorem dX6_passLine_66 : decode cX6_passLine 66 = .ok (.aload_n 0, 1) := by decide +kernel
theorem dX6_passLine_67 : decode cX6_passLine 67 = .ok (.getfield 64, 3) := by decide +kernel
theorem dX6_passLine_70 : decode cX6_passLine 70 = .ok (.iload 4, 2) := by decide +kernel
theorem dX6_passLine_72 : decode cX6_passLine 72 = .ok (.invokevirtual 117, 3) := by decide +kernel
theorem dX6_passLine_75 : decode cX6_passLine 75 = .ok (.iload 7, 2) := by decide +kernel
theorem dX6_passLine_77 : decode cX6_passLine 77 = .ok (.ifCond .eq 16, 3) := by decide +kernel
theorem dX6_passLine_80 : decode cX6_passLine 80 = .ok (.aload_n 0, 1) := by decide +kernel
theorem dX6_passLine_81 : decode cX6_passLine 81 = .ok (.getfield 64, 3) := by decide +kernel
theorem dX6_passLine_84 : decode cX6_passLine 84 = .ok (.iload_n 1, 1) := by decide +kernel
theorem dX6_passLine_85 : decode cX6_passLine 85 = .ok (.iload 7, 2) := by decide +kernel
theorem dX6_passLine_87 : decode cX6_passLine 87 = .ok (.invokevirtual 120, 3) := by decide +kernel
theorem dX6_passLine_90 : decode cX6_passLine 90 = .ok (.ifCond .eq 12, 3) := by decide +kernel
theorem dX6_passLine_93 : decode cX6_passLine 93 = .ok (.aload_n 0, 1) := by decide +kernel
theorem dX6_passLine_94 : decode cX6_passLine 94 = .ok (.iload_n 1, 1) := by decide +kernel
theorem dX6_passLine_95 : decode cX6_passLine 95 = .ok (.iload 7, 2) := by decide +kernel
theorem dX6_passLine_97 : decode cX6_passLine 97 = .ok (.lload 5, 2) := by decide +kernel
theorem dX6_passLine_99 : decode cX6_passLine 99 = .ok (.invokevirtual 123, 3) := by decide +kernel
theorem dX6_passLine_102 : decode cX6_passLine 102 = .ok (.iinc 7 1, 3) := by decide +kernel
theorem dX6_passLine_105 : decode cX6_passLine 105 = .ok (.goto (-45), 3) := by decide +kernel
theorem dX6_passLine_108 : decode cX6_passLine 108 = .ok (.iinc 3 1, 3) := by decide +kernel
theorem dX6_passLine_111 : decode cX6_passLine 111 = .ok (.goto (-89), 3) := by decide +kernel
theorem dX6_passLine_114 : decode cX6_passLine 114 = .ok (.aload_n 0, 1) := by decide +kernel
theorem dX6_passLine_115 : decode cX6_passLine 115 = .ok (.invokevirtual 127, 3) := by decide +kernel
theorem dX6_passLine_118 : decode cX6_passLine 118 = .ok (.return_, 1) := by decide +kernel
theorem dX6_offer_0 : decode cX6_offer 0 = .ok (.iload_n 2, 1) := by decide +kernel
theorem dX6_offer_1 : decode cX6_offer 1 = .ok (.ifCond .ne 12, 3) := by decide +kernel
theorem dX6_offer_4 : decode cX6_offer 4 = .ok (.aload_n 0, 1) := by decide +kernel
theorem dX6_offer_5 : decode cX6_offer 5 = .ok (.iload_n 1, 1) := by decide +kernel
theorem dX6_offer_6 : decode cX6_offer 6 = .ok (.invokevirtual 130, 3) := by decide +kernel
theorem dX6_offer_9 : decode cX6_offer 9 = .ok (.i2l, 1) := by decide +kernel
theorem dX6_offer_10 : decode cX6_offer 10 = .ok (.goto 10, 3) := by decide +kernel
theorem dX6_offer_13 : decode cX6_offer 13 = .ok (.aload_n 0, 1) := by decide +kernel
theorem dX6_offer_14 : decode cX6_offer 14 = .ok (.iload_n 1, 1) := by decide +kernel
theorem dX6_offer_15 : decode cX6_offer 15 = .ok (.iload_n 2, 1) := by decide +kernel
theorem dX6_offer_16 : decode cX6_offer 16 = .ok (.invokevirtual 134, 3) := by decide +kernel
theorem dX6_offer_19 : decode cX6_offer 19 = .ok (.i2l, 1) := by decide +kernel
theorem dX6_offer_20 : decode cX6_offer 20 = .ok (.lstore 5, 2) := by decide +kernel
theorem dX6_offer_22 : decode cX6_offer 22 = .ok (.iload_n 2, 1) := by decide +kernel
theorem dX6_offer_23 : decode cX6_offer 23 = .ok (.i2l, 1) := by decide +kernel
theorem dX6_offer_24 : decode cX6_offer 24 = .ok (.iconst 2, 1) := by decide +kernel
theorem dX6_offer_25 : decode cX6_offer 25 = .ok (.bipush 19, 2) := by decide +kernel
theorem dX6_offer_27 : decode cX6_offer 27 = .ok (.iload_n 1, 1) := by decide +kernel
theorem dX6_offer_28 : decode cX6_offer 28 = .ok (.isub, 1) := by decide +kernel
theorem dX6_offer_29 : decode cX6_offer 29 = .ok (.imul, 1) := by decide +kernel
theorem dX6_offer_30 : decode cX6_offer 30 = .ok (.lshl, 1) := by decide +kernel
theorem dX6_offer_31 : decode cX6_offer 31 = .ok (.lstore 7, 2) := by decide +kernel
theorem dX6_offer_33 : decode cX6_offer 33 = .ok (.iload_n 2, 1) := by decide +kernel
theorem dX6_offer_34 : decode cX6_offer 34 = .ok (.ifCond .le 12, 3) := by decide +kernel
theorem dX6_offer_37 : decode cX6_offer 37 = .ok (.aload_n 0, 1) := by decide +kernel
theorem dX6_offer_38 : decode cX6_offer 38 = .ok (.getfield 64, 3) := by decide +kernel
theorem dX6_offer_41 : decode cX6_offer 41 = .ok (.iload_n 1, 1) := by decide +kernel
theorem dX6_offer_42 : decode cX6_offer 42 = .ok (.iload_n 2, 1) := by decide +kernel
theorem dX6_offer_43 : decode cX6_offer 43 = .ok (.invokevirtual 137, 3) := by decide +kernel
theorem dX6_offer_46 : decode cX6_offer 46 = .ok (.aload_n 0, 1) := by decide +kernel
theorem dX6_offer_47 : decode cX6_offer 47 = .ok (.getfield 64, 3) := by decide +kernel
theorem dX6_offer_50 : decode cX6_offer 50 = .ok (.aload_n 0, 1) := by decide +kernel
theorem dX6_offer_51 : decode cX6_offer 51 = .ok (.getfield 29, 3) := by decide +kernel
theorem dX6_offer_54 : decode cX6_offer 54 = .ok (.invokevirtual 141, 3) := by decide +kernel
theorem dX6_offer_57 : decode cX6_offer 57 = .ok (.istore 9, 2) := by decide +kernel
theorem dX6_offer_59 : decode cX6_offer 59 = .ok (.aload_n 0, 1) := by decide +kernel
theorem dX6_offer_60 : decode cX6_offer 60 = .ok (.getfield 38, 3) := by decide +kernel
theorem dX6_offer_63 : decode cX6_offer 63 = .ok (.iload 9, 2) := by decide +kernel
theorem dX6_offer_65 : decode cX6_offer 65 = .ok (.laload, 1) := by decide +kernel
theorem dX6_offer_66 : decode cX6_offer 66 = .ok (.ldc2_w 68, 3) := by decide +kernel
theorem dX6_offer_69 : decode cX6_offer 69 = .ok (.lcmp, 1) := by decide +kernel
theorem dX6_offer_70 : decode cX6_offer 70 = .ok (.ifCond .ne 24, 3) := by decide +kernel
theorem dX6_offer_73 : decode cX6_offer 73 = .ok (.aload_n 0, 1) := by decide +kernel
theorem dX6_offer_74 : decode cX6_offer 74 = .ok (.getfield 44, 3) := by decide +kernel
theorem dX6_offer_77 : decode cX6_offer 77 = .ok (.aload_n 0, 1) := by decide +kernel
theorem dX6_offer_78 : decode cX6_offer 78 = .ok (.getfield 50, 3) := by decide +kernel
theorem dX6_offer_81 : decode cX6_offer 81 = .ok (.iload 9, 2) := by decide +kernel
theorem dX6_offer_83 : decode cX6_offer 83 = .ok (.iastore, 1) := by decide +kernel
theorem dX6_offer_84 : decode cX6_offer 84 = .ok (.aload_n 0, 1) := by decide +kernel
theorem dX6_offer_85 : decode cX6_offer 85 = .ok (.dup, 1) := by decide +kernel
theorem dX6_offer_86 : decode cX6_offer 86 = .ok (.getfield 50, 3) := by decide +kernel
theorem dX6_offer_89 : decode cX6_offer 89 = .ok (.iconst 1, 1) := by decide +kernel
theorem dX6_offer_90 : decode cX6_offer 90 = .ok (.iadd, 1) := by decide +kernel
theorem dX6_offer_91 : decode cX6_offer 91 = .ok (.putfield 50, 3) := by decide +kernel
theorem dX6_offer_94 : decode cX6_offer 94 = .ok (.aload_n 0, 1) := by decide +kernel
theorem dX6_offer_95 : decode cX6_offer 95 = .ok (.getfield 38, 3) := by decide +kernel
theorem dX6_offer_98 : decode cX6_offer 98 = .ok (.iload 9, 2) := by decide +kernel
theorem dX6_offer_100 : decode cX6_offer 100 = .ok (.aload_n 0, 1) := by decide +kernel
theorem dX6_offer_101 : decode cX6_offer 101 = .ok (.getfield 38, 3) := by decide +kernel
theorem dX6_offer_104 : decode cX6_offer 104 = .ok (.iload 9, 2) := by decide +kernel
theorem dX6_offer_106 : decode cX6_offer 106 = .ok (.laload, 1) := by decide +kernel
theorem dX6_offer_107 : decode cX6_offer 107 = .ok (.lload_n 3, 1) := by decide +kernel
theorem dX6_offer_108 : decode cX6_offer 108 = .ok (.lload 5, 2) := by decide +kernel
theorem dX6_offer_110 : decode cX6_offer 110 = .ok (.bipush 40, 2) := by decide +kernel
theorem dX6_offer_112 : decode cX6_offer 112 = .ok (.lshl, 1) := by decide +kernel
theorem dX6_offer_113 : decode cX6_offer 113 = .ok (.ladd, 1) := by decide +kernel
theorem dX6_offer_114 : decode cX6_offer 114 = .ok (.lload 7, 2) := by decide +kernel
theorem dX6_offer_116 : decode cX6_offer 116 = .ok (.ladd, 1) := by decide +kernel
theorem dX6_offer_117 : decode cX6_offer 117 = .ok (.invokestatic 145, 3) := by decide +kernel
theorem dX6_offer_120 : decode cX6_offer 120 = .ok (.lastore, 1) := by decide +kernel
theorem dX6_offer_121 : decode cX6_offer 121 = .ok (.return_, 1) := by decide +kernel
theorem dX6_textCost_0 : decode cX6_textCost 0 = .ok (.aload_n 0, 1) := by decide +kernel
theorem dX6_textCost_1 : decode cX6_textCost 1 = .ok (.getfield 9, 3) := by decide +kernel
theorem dX6_textCost_4 : decode cX6_textCost 4 = .ok (.iload_n 1, 1) := by decide +kernel
theorem dX6_textCost_5 : decode cX6_textCost 5 = .ok (.baload, 1) := by decide +kernel
theorem dX6_textCost_6 : decode cX6_textCost 6 = .ok (.ifCond .eq 7, 3) := by decide +kernel
theorem dX6_textCost_9 : decode cX6_textCost 9 = .ok (.iconst 0, 1) := by decide +kernel
theorem dX6_textCost_10 : decode cX6_textCost 10 = .ok (.goto 21, 3) := by decide +kernel
theorem dX6_textCost_13 : decode cX6_textCost 13 = .ok (.aload_n 0, 1) := by decide +kernel
theorem dX6_textCost_14 : decode cX6_textCost 14 = .ok (.getfield 53, 3) := by decide +kernel
theorem dX6_textCost_17 : decode cX6_textCost 17 = .ok (.iload_n 1, 1) := by decide +kernel
theorem dX6_textCost_18 : decode cX6_textCost 18 = .ok (.invokevirtual 149, 3) := by decide +kernel
theorem dX6_textCost_21 : decode cX6_textCost 21 = .ok (.aload_n 0, 1) := by decide +kernel
theorem dX6_textCost_22 : decode cX6_textCost 22 = .ok (.getfield 57, 3) := by decide +kernel
theorem dX6_textCost_25 : decode cX6_textCost 25 = .ok (.getfield 152, 3) := by decide +kernel
theorem dX6_textCost_28 : decode cX6_textCost 28 = .ok (.iconst 0, 1) := by decide +kernel
theorem dX6_textCost_29 : decode cX6_textCost 29 = .ok (.iaload, 1) := by decide +kernel
theorem dX6_textCost_30 : decode cX6_textCost 30 = .ok (.imul, 1) := by decide +kernel
theorem dX6_textCost_31 : decode cX6_textCost 31 = .ok (.ireturn, 1) := by decide +kernel
theorem dX6_headCost_0 : decode cX6_headCost 0 = .ok (.aload_n 0, 1) := by decide +kernel
theorem dX6_headCost_1 : decode cX6_headCost 1 = .ok (.getfield 53, 3) := by decide +kernel
theorem dX6_headCost_4 : decode cX6_headCost 4 = .ok (.iload_n 1, 1) := by decide +kernel
theorem dX6_headCost_5 : decode cX6_headCost 5 = .ok (.invokevirtual 149, 3) := by decide +kernel
theorem dX6_headCost_8 : decode cX6_headCost 8 = .ok (.aload_n 0, 1) := by decide +kernel
theorem dX6_headCost_9 : decode cX6_headCost 9 = .ok (.getfield 57, 3) := by decide +kernel
theorem dX6_headCost_12 : decode cX6_headCost 12 = .ok (.getfield 155, 3) := by decide +kernel
theorem dX6_headCost_15 : decode cX6_headCost 15 = .ok (.iload_n 2, 1) := by decide +kernel
theorem dX6_headCost_16 : decode cX6_headCost 16 = .ok (.iaload, 1) := by decide +kernel
theorem dX6_headCost_17 : decode cX6_headCost 17 = .ok (.isub, 1) := by decide +kernel
theorem dX6_headCost_18 : decode cX6_headCost 18 = .ok (.invokestatic 158, 3) := by decide +kernel
theorem dX6_headCost_21 : decode cX6_headCost 21 = .ok (.istore_n 3, 1) := by decide +kernel
theorem dX6_headCost_22 : decode cX6_headCost 22 = .ok (.aload_n 0, 1) := by decide +kernel
theorem dX6_headCost_23 : decode cX6_headCost 23 = .ok (.getfield 57, 3) := by decide +kernel
theorem dX6_headCost_26 : decode cX6_headCost 26 = .ok (.getfield 152, 3) := by decide +kernel
theorem dX6_headCost_29 : decode cX6_headCost 29 = .ok (.iconst 1, 1) := by decide +kernel
theorem dX6_headCost_30 : decode cX6_headCost 30 = .ok (.iaload, 1) := by decide +kernel
theorem dX6_headCost_31 : decode cX6_headCost 31 = .ok (.iload_n 3, 1) := by decide +kernel
theorem dX6_headCost_32 : decode cX6_headCost 32 = .ok (.imul, 1) := by decide +kernel
theorem dX6_headCost_33 : decode cX6_headCost 33 = .ok (.istore 4, 2) := by decide +kernel
theorem dX6_headCost_35 : decode cX6_headCost 35 = .ok (.aload_n 0, 1) := by decide +kernel
theorem dX6_headCost_36 : decode cX6_headCost 36 = .ok (.getfield 53, 3) := by decide +kernel
theorem dX6_headCost_39 : decode cX6_headCost 39 = .ok (.getfield 161, 3) := by decide +kernel
theorem dX6_headCost_42 : decode cX6_headCost 42 = .ok (.iload_n 1, 1) := by decide +kernel
theorem dX6_headCost_43 : decode cX6_headCost 43 = .ok (.iaload, 1) := by decide +kernel
theorem dX6_headCost_44 : decode cX6_headCost 44 = .ok (.ifCond .ne 16, 3) := by decide +kernel
theorem dX6_headCost_47 : decode cX6_headCost 47 = .ok (.iload 4, 2) := by decide +kernel
theorem dX6_headCost_49 : decode cX6_headCost 49 = .ok (.aload_n 0, 1) := by decide +kernel
theorem dX6_headCost_50 : decode cX6_headCost 50 = .ok (.getfield 57, 3) := by decide +kernel
theorem dX6_headCost_53 : decode cX6_headCost 53 = .ok (.getfield 152, 3) := by decide +kernel
theorem dX6_headCost_56 : decode cX6_headCost 56 = .ok (.iconst 3, 1) := by decide +kernel
theorem dX6_headCost_57 : decode cX6_headCost 57 = .ok (.iaload, 1) := by decide +kernel
theorem dX6_headCost_58 : decode cX6_headCost 58 = .ok (.iadd, 1) := by decide +kernel
theorem dX6_headCost_59 : decode cX6_headCost 59 = .ok (.ireturn, 1) := by decide +kernel
theorem dX6_headCost_60 : decode cX6_headCost 60 = .ok (.aload_n 0, 1) := by decide +kernel
theorem dX6_headCost_61 : decode cX6_headCost 61 = .ok (.getfield 53, 3) := by decide +kernel
theorem dX6_headCost_64 : decode cX6_headCost 64 = .ok (.iload_n 1, 1) := by decide +kernel
theorem dX6_headCost_65 : decode cX6_headCost 65 = .ok (.iload_n 2, 1) := by decide +kernel
theorem dX6_headCost_66 : decode cX6_headCost 66 = .ok (.invokevirtual 108, 3) := by decide +kernel
theorem dX6_headCost_69 : decode cX6_headCost 69 = .ok (.aload_n 0, 1) := by decide +kernel
theorem dX6_headCost_70 : decode cX6_headCost 70 = .ok (.getfield 64, 3) := by decide +kernel
theorem dX6_headCost_73 : decode cX6_headCost 73 = .ok (.getfield 164, 3) := by decide +kernel
theorem dX6_headCost_76 : decode cX6_headCost 76 = .ok (.iload_n 2, 1) := by decide +kernel
theorem dX6_headCost_77 : decode cX6_headCost 77 = .ok (.iaload, 1) := by decide +kernel
theorem dX6_headCost_78 : decode cX6_headCost 78 = .ok (.iconst 1, 1) := by decide +kernel
theorem dX6_headCost_79 : decode cX6_headCost 79 = .ok (.iadd, 1) := by decide +kernel
theorem dX6_headCost_80 : decode cX6_headCost 80 = .ok (.if_icmp .ne 7, 3) := by decide +kernel
theorem dX6_headCost_83 : decode cX6_headCost 83 = .ok (.iconst 1, 1) := by decide +kernel
theorem dX6_headCost_84 : decode cX6_headCost 84 = .ok (.goto 4, 3) := by decide +kernel
theorem dX6_headCost_87 : decode cX6_headCost 87 = .ok (.iconst 0, 1) := by decide +kernel
theorem dX6_headCost_88 : decode cX6_headCost 88 = .ok (.istore 5, 2) := by decide +kernel
theorem dX6_headCost_90 : decode cX6_headCost 90 = .ok (.iload 5, 2) := by decide +kernel
theorem dX6_headCost_92 : decode cX6_headCost 92 = .ok (.ifCond .eq 8, 3) := by decide +kernel
theorem dX6_headCost_95 : decode cX6_headCost 95 = .ok (.iload 4, 2) := by decide +kernel
theorem dX6_headCost_97 : decode cX6_headCost 97 = .ok (.goto 15, 3) := by decide +kernel
theorem dX6_headCost_100 : decode cX6_headCost 100 = .ok (.iload 4, 2) := by decide +kernel
theorem dX6_headCost_102 : decode cX6_headCost 102 = .ok (.aload_n 0, 1) := by decide +kernel
theorem dX6_headCost_103 : decode cX6_headCost 103 = .ok (.getfield 57, 3) := by decide +kernel
theorem dX6_headCost_106 : decode cX6_headCost 106 = .ok (.getfield 152, 3) := by decide +kernel
theorem dX6_headCost_109 : decode cX6_headCost 109 = .ok (.iconst 2, 1) := by decide +kernel
theorem dX6_headCost_110 : decode cX6_headCost 110 = .ok (.iaload, 1) := by decide +kernel
theorem dX6_headCost_111 : decode cX6_headCost 111 = .ok (.iadd, 1) := by decide +kernel
theorem dX6_headCost_112 : decode cX6_headCost 112 = .ok (.ireturn, 1) := by decide +kernel
theorem dX6_swapRows_0 : decode cX6_swapRows 0 = .ok (.aload_n 0, 1) := by decide +kernel
theorem dX6_swapRows_1 : decode cX6_swapRows 1 = .ok (.getfield 34, 3) := by decide +kernel
theorem dX6_swapRows_4 : decode cX6_swapRows 4 = .ok (.astore_n 1, 1) := by decide +kernel
theorem dX6_swapRows_5 : decode cX6_swapRows 5 = .ok (.aload_n 0, 1) := by decide +kernel
theorem dX6_swapRows_6 : decode cX6_swapRows 6 = .ok (.aload_n 0, 1) := by decide +kernel
theorem dX6_swapRows_7 : decode cX6_swapRows 7 = .ok (.getfield 38, 3) := by decide +kernel
theorem dX6_swapRows_10 : decode cX6_swapRows 10 = .ok (.putfield 34, 3) := by decide +kernel
theorem dX6_swapRows_13 : decode cX6_swapRows 13 = .ok (.aload_n 0, 1) := by decide +kernel
theorem dX6_swapRows_14 : decode cX6_swapRows 14 = .ok (.aload_n 1, 1) := by decide +kernel
theorem dX6_swapRows_15 : decode cX6_swapRows 15 = .ok (.putfield 38, 3) := by decide +kernel
theorem dX6_swapRows_18 : decode cX6_swapRows 18 = .ok (.aload_n 0, 1) := by decide +kernel
theorem dX6_swapRows_19 : decode cX6_swapRows 19 = .ok (.getfield 41, 3) := by decide +kernel
theorem dX6_swapRows_22 : decode cX6_swapRows 22 = .ok (.astore_n 2, 1) := by decide +kernel
theorem dX6_swapRows_23 : decode cX6_swapRows 23 = .ok (.aload_n 0, 1) := by decide +kernel
theorem dX6_swapRows_24 : decode cX6_swapRows 24 = .ok (.aload_n 0, 1) := by decide +kernel
theorem dX6_swapRows_25 : decode cX6_swapRows 25 = .ok (.getfield 44, 3) := by decide +kernel
theorem dX6_swapRows_28 : decode cX6_swapRows 28 = .ok (.putfield 41, 3) := by decide +kernel
theorem dX6_swapRows_31 : decode cX6_swapRows 31 = .ok (.aload_n 0, 1) := by decide +kernel
theorem dX6_swapRows_32 : decode cX6_swapRows 32 = .ok (.aload_n 2, 1) := by decide +kernel
theorem dX6_swapRows_33 : decode cX6_swapRows 33 = .ok (.putfield 44, 3) := by decide +kernel
theorem dX6_swapRows_36 : decode cX6_swapRows 36 = .ok (.aload_n 0, 1) := by decide +kernel
theorem dX6_swapRows_37 : decode cX6_swapRows 37 = .ok (.aload_n 0, 1) := by decide +kernel
theorem dX6_swapRows_38 : decode cX6_swapRows 38 = .ok (.getfield 50, 3) := by decide +kernel
theorem dX6_swapRows_41 : decode cX6_swapRows 41 = .ok (.putfield 47, 3) := by decide +kernel
theorem dX6_swapRows_44 : decode cX6_swapRows 44 = .ok (.return_, 1) := by decide +kernel
theorem dX6_takeLeastKey_0 : decode cX6_takeLeastKey 0 = .ok (.ldc2_w 68, 3) := by decide +kernel
theorem dX6_takeLeastKey_3 : decode cX6_takeLeastKey 3 = .ok (.lstore_n 1, 1) := by decide +kernel
theorem dX6_takeLeastKey_4 : decode cX6_takeLeastKey 4 = .ok (.iconst 0, 1) := by decide +kernel
theorem dX6_takeLeastKey_5 : decode cX6_takeLeastKey 5 = .ok (.istore_n 3, 1) := by decide +kernel
theorem dX6_takeLeastKey_6 : decode cX6_takeLeastKey 6 = .ok (.iload_n 3, 1) := by decide +kernel
theorem dX6_takeLeastKey_7 : decode cX6_takeLeastKey 7 = .ok (.aload_n 0, 1) := by decide +kernel
theorem dX6_takeLeastKey_8 : decode cX6_takeLeastKey 8 = .ok (.getfield 47, 3) := by decide +kernel
theorem dX6_takeLeastKey_11 : decode cX6_takeLeastKey 11 = .ok (.if_icmp .ge 39, 3) := by decide +kernel
theorem dX6_takeLeastKey_14 : decode cX6_takeLeastKey 14 = .ok (.lload_n 1, 1) := by decide +kernel
theorem dX6_takeLeastKey_15 : decode cX6_takeLeastKey 15 = .ok (.aload_n 0, 1) := by decide +kernel
theorem dX6_takeLeastKey_16 : decode cX6_takeLeastKey 16 = .ok (.getfield 34, 3) := by decide +kernel
theorem dX6_takeLeastKey_19 : decode cX6_takeLeastKey 19 = .ok (.aload_n 0, 1) := by decide +kernel
theorem dX6_takeLeastKey_20 : decode cX6_takeLeastKey 20 = .ok (.getfield 41, 3) := by decide +kernel
theorem dX6_takeLeastKey_23 : decode cX6_takeLeastKey 23 = .ok (.iload_n 3, 1) := by decide +kernel
theorem dX6_takeLeastKey_24 : decode cX6_takeLeastKey 24 = .ok (.iaload, 1) := by decide +kernel
theorem dX6_takeLeastKey_25 : decode cX6_takeLeastKey 25 = .ok (.laload, 1) := by decide +kernel
theorem dX6_takeLeastKey_26 : decode cX6_takeLeastKey 26 = .ok (.invokestatic 145, 3) := by decide +kernel
theorem dX6_takeLeastKey_29 : decode cX6_takeLeastKey 29 = .ok (.lstore_n 1, 1) := by decide +kernel
theorem dX6_takeLeastKey_30 : decode cX6_takeLeastKey 30 = .ok (.aload_n 0, 1) := by decide +kernel
theorem dX6_takeLeastKey_31 : decode cX6_takeLeastKey 31 = .ok (.getfield 34, 3) := by decide +kernel
theorem dX6_takeLeastKey_34 : decode cX6_takeLeastKey 34 = .ok (.aload_n 0, 1) := by decide +kernel
theorem dX6_takeLeastKey_35 : decode cX6_takeLeastKey 35 = .ok (.getfield 41, 3) := by decide +kernel
theorem dX6_takeLeastKey_38 : decode cX6_takeLeastKey 38 = .ok (.iload_n 3, 1) := by decide +kernel
theorem dX6_takeLeastKey_39 : decode cX6_takeLeastKey 39 = .ok (.iaload, 1) := by decide +kernel
theorem dX6_takeLeastKey_40 : decode cX6_takeLeastKey 40 = .ok (.ldc2_w 68, 3) := by decide +kernel
theorem dX6_takeLeastKey_43 : decode cX6_takeLeastKey 43 = .ok (.lastore, 1) := by decide +kernel
theorem dX6_takeLeastKey_44 : decode cX6_takeLeastKey 44 = .ok (.iinc 3 1, 3) := by decide +kernel
theorem dX6_takeLeastKey_47 : decode cX6_takeLeastKey 47 = .ok (.goto (-41), 3) := by decide +kernel
theorem dX6_takeLeastKey_50 : decode cX6_takeLeastKey 50 = .ok (.lload_n 1, 1) := by decide +kernel
theorem dX6_takeLeastKey_51 : decode cX6_takeLeastKey 51 = .ok (.lreturn, 1) := by decide +kernel
theorem dX6_tellLevels_0 : decode cX6_tellLevels 0 = .ok (.aload_n 0, 1) := by decide +kernel
theorem dX6_tellLevels_1 : decode cX6_tellLevels 1 = .ok (.lload_n 1, 1) := by decide +kernel
theorem dX6_tellLevels_2 : decode cX6_tellLevels 2 = .ok (.bipush 40, 2) := by decide +kernel
theorem dX6_tellLevels_4 : decode cX6_tellLevels 4 = .ok (.lshr, 1) := by decide +kernel
theorem dX6_tellLevels_5 : decode cX6_tellLevels 5 = .ok (.l2i, 1) := by decide +kernel
theorem dX6_tellLevels_6 : decode cX6_tellLevels 6 = .ok (.putfield 26, 3) := by decide +kernel
theorem dX6_tellLevels_9 : decode cX6_tellLevels 9 = .ok (.aload_n 0, 1) := by decide +kernel
theorem dX6_tellLevels_10 : decode cX6_tellLevels 10 = .ok (.iconst 0, 1) := by decide +kernel
theorem dX6_tellLevels_11 : decode cX6_tellLevels 11 = .ok (.putfield 22, 3) := by decide +kernel
theorem dX6_tellLevels_14 : decode cX6_tellLevels 14 = .ok (.iconst 0, 1) := by decide +kernel
theorem dX6_tellLevels_15 : decode cX6_tellLevels 15 = .ok (.istore_n 3, 1) := by decide +kernel
theorem dX6_tellLevels_16 : decode cX6_tellLevels 16 = .ok (.iload_n 3, 1) := by decide +kernel
theorem dX6_tellLevels_17 : decode cX6_tellLevels 17 = .ok (.aload_n 0, 1) := by decide +kernel
theorem dX6_tellLevels_18 : decode cX6_tellLevels 18 = .ok (.getfield 53, 3) := by decide +kernel
theorem dX6_tellLevels_21 : decode cX6_tellLevels 21 = .ok (.getfield 76, 3) := by decide +kernel
theorem dX6_tellLevels_24 : decode cX6_tellLevels 24 = .ok (.if_icmp .ge 51, 3) := by decide +kernel
theorem dX6_tellLevels_27 : decode cX6_tellLevels 27 = .ok (.aload_n 0, 1) := by decide +kernel
theorem dX6_tellLevels_28 : decode cX6_tellLevels 28 = .ok (.getfield 15, 3) := by decide +kernel
theorem dX6_tellLevels_31 : decode cX6_tellLevels 31 = .ok (.iload_n 3, 1) := by decide +kernel
theorem dX6_tellLevels_32 : decode cX6_tellLevels 32 = .ok (.lload_n 1, 1) := by decide +kernel
theorem dX6_tellLevels_33 : decode cX6_tellLevels 33 = .ok (.iconst 2, 1) := by decide +kernel
theorem dX6_tellLevels_34 : decode cX6_tellLevels 34 = .ok (.bipush 19, 2) := by decide +kernel
theorem dX6_tellLevels_36 : decode cX6_tellLevels 36 = .ok (.iload_n 3, 1) := by decide +kernel
theorem dX6_tellLevels_37 : decode cX6_tellLevels 37 = .ok (.isub, 1) := by decide +kernel
theorem dX6_tellLevels_38 : decode cX6_tellLevels 38 = .ok (.imul, 1) := by decide +kernel
theorem dX6_tellLevels_39 : decode cX6_tellLevels 39 = .ok (.lshr, 1) := by decide +kernel
theorem dX6_tellLevels_40 : decode cX6_tellLevels 40 = .ok (.ldc2_w 167, 3) := by decide +kernel
theorem dX6_tellLevels_43 : decode cX6_tellLevels 43 = .ok (.land, 1) := by decide +kernel
theorem dX6_tellLevels_44 : decode cX6_tellLevels 44 = .ok (.l2i, 1) := by decide +kernel
theorem dX6_tellLevels_45 : decode cX6_tellLevels 45 = .ok (.iastore, 1) := by decide +kernel
theorem dX6_tellLevels_46 : decode cX6_tellLevels 46 = .ok (.aload_n 0, 1) := by decide +kernel
theorem dX6_tellLevels_47 : decode cX6_tellLevels 47 = .ok (.dup, 1) := by decide +kernel
theorem dX6_tellLevels_48 : decode cX6_tellLevels 48 = .ok (.getfield 22, 3) := by decide +kernel
theorem dX6_tellLevels_51 : decode cX6_tellLevels 51 = .ok (.aload_n 0, 1) := by decide +kernel
theorem dX6_tellLevels_52 : decode cX6_tellLevels 52 = .ok (.getfield 15, 3) := by decide +kernel
theorem dX6_tellLevels_55 : decode cX6_tellLevels 55 = .ok (.iload_n 3, 1) := by decide +kernel
theorem dX6_tellLevels_56 : decode cX6_tellLevels 56 = .ok (.iaload, 1) := by decide +kernel
theorem dX6_tellLevels_57 : decode cX6_tellLevels 57 = .ok (.ifCond .le 7, 3) := by decide +kernel
theorem dX6_tellLevels_60 : decode cX6_tellLevels 60 = .ok (.iconst 1, 1) := by decide +kernel
theorem dX6_tellLevels_61 : decode cX6_tellLevels 61 = .ok (.goto 4, 3) := by decide +kernel
theorem dX6_tellLevels_64 : decode cX6_tellLevels 64 = .ok (.iconst 0, 1) := by decide +kernel
theorem dX6_tellLevels_65 : decode cX6_tellLevels 65 = .ok (.iadd, 1) := by decide +kernel
theorem dX6_tellLevels_66 : decode cX6_tellLevels 66 = .ok (.putfield 22, 3) := by decide +kernel
theorem dX6_tellLevels_69 : decode cX6_tellLevels 69 = .ok (.iinc 3 1, 3) := by decide +kernel
theorem dX6_tellLevels_72 : decode cX6_tellLevels 72 = .ok (.goto (-56), 3) := by decide +kernel
theorem dX6_tellLevels_75 : decode cX6_tellLevels 75 = .ok (.return_, 1) := by decide +kernel
theorem dX6_tellCounters_0 : decode cX6_tellCounters 0 = .ok (.aload_n 0, 1) := by decide +kernel
theorem dX6_tellCounters_1 : decode cX6_tellCounters 1 = .ok (.getfield 64, 3) := by decide +kernel
theorem dX6_tellCounters_4 : decode cX6_tellCounters 4 = .ok (.iconst 0, 1) := by decide +kernel
theorem dX6_tellCounters_5 : decode cX6_tellCounters 5 = .ok (.invokevirtual 117, 3) := by decide +kernel
theorem dX6_tellCounters_8 : decode cX6_tellCounters 8 = .ok (.iconst 0, 1) := by decide +kernel
theorem dX6_tellCounters_9 : decode cX6_tellCounters 9 = .ok (.istore_n 1, 1) := by decide +kernel
theorem dX6_tellCounters_10 : decode cX6_tellCounters 10 = .ok (.iload_n 1, 1) := by decide +kernel
theorem dX6_tellCounters_11 : decode cX6_tellCounters 11 = .ok (.aload_n 0, 1) := by decide +kernel
theorem dX6_tellCounters_12 : decode cX6_tellCounters 12 = .ok (.getfield 53, 3) := by decide +kernel
theorem dX6_tellCounters_15 : decode cX6_tellCounters 15 = .ok (.getfield 76, 3) := by decide +kernel
theorem dX6_tellCounters_18 : decode cX6_tellCounters 18 = .ok (.if_icmp .ge 66, 3) := by decide +kernel
theorem dX6_tellCounters_21 : decode cX6_tellCounters 21 = .ok (.aload_n 0, 1) := by decide +kernel
theorem dX6_tellCounters_22 : decode cX6_tellCounters 22 = .ok (.getfield 15, 3) := by decide +kernel
theorem dX6_tellCounters_25 : decode cX6_tellCounters 25 = .ok (.iload_n 1, 1) := by decide +kernel
theorem dX6_tellCounters_26 : decode cX6_tellCounters 26 = .ok (.iaload, 1) := by decide +kernel
theorem dX6_tellCounters_27 : decode cX6_tellCounters 27 = .ok (.ifCond .le 17, 3) := by decide +kernel
theorem dX6_tellCounters_30 : decode cX6_tellCounters 30 = .ok (.aload_n 0, 1) := by decide +kernel
theorem dX6_tellCounters_31 : decode cX6_tellCounters 31 = .ok (.getfield 64, 3) := by decide +kernel
theorem dX6_tellCounters_34 : decode cX6_tellCounters 34 = .ok (.iload_n 1, 1) := by decide +kernel
theorem dX6_tellCounters_35 : decode cX6_tellCounters 35 = .ok (.aload_n 0, 1) := by decide +kernel
theorem dX6_tellCounters_36 : decode cX6_tellCounters 36 = .ok (.getfield 15, 3) := by decide +kernel
theorem dX6_tellCounters_39 : decode cX6_tellCounters 39 = .ok (.iload_n 1, 1) := by decide +kernel
theorem dX6_tellCounters_40 : decode cX6_tellCounters 40 = .ok (.iaload, 1) := by decide +kernel
theorem dX6_tellCounters_41 : decode cX6_tellCounters 41 = .ok (.invokevirtual 137, 3) := by decide +kernel
theorem dX6_tellCounters_44 : decode cX6_tellCounters 44 = .ok (.iconst 1, 1) := by decide +kernel
theorem dX6_tellCounters_45 : decode cX6_tellCounters 45 = .ok (.istore_n 2, 1) := by decide +kernel
theorem dX6_tellCounters_46 : decode cX6_tellCounters 46 = .ok (.iload_n 2, 1) := by decide +kernel
theorem dX6_tellCounters_47 : decode cX6_tellCounters 47 = .ok (.iconst 3, 1) := by decide +kernel
theorem dX6_tellCounters_48 : decode cX6_tellCounters 48 = .ok (.if_icmp .gt 30, 3) := by decide +kernel
theorem dX6_tellCounters_51 : decode cX6_tellCounters 51 = .ok (.aload_n 0, 1) := by decide +kernel
theorem dX6_tellCounters_52 : decode cX6_tellCounters 52 = .ok (.getfield 19, 3) := by decide +kernel
theorem dX6_tellCounters_55 : decode cX6_tellCounters 55 = .ok (.iload_n 1, 1) := by decide +kernel
theorem dX6_tellCounters_56 : decode cX6_tellCounters 56 = .ok (.iconst 3, 1) := by decide +kernel
theorem dX6_tellCounters_57 : decode cX6_tellCounters 57 = .ok (.imul, 1) := by decide +kernel
theorem dX6_tellCounters_58 : decode cX6_tellCounters 58 = .ok (.iload_n 2, 1) := by decide +kernel
theorem dX6_tellCounters_59 : decode cX6_tellCounters 59 = .ok (.iadd, 1) := by decide +kernel
theorem dX6_tellCounters_60 : decode cX6_tellCounters 60 = .ok (.iconst 1, 1) := by decide +kernel
theorem dX6_tellCounters_61 : decode cX6_tellCounters 61 = .ok (.isub, 1) := by decide +kernel
theorem dX6_tellCounters_62 : decode cX6_tellCounters 62 = .ok (.aload_n 0, 1) := by decide +kernel
theorem dX6_tellCounters_63 : decode cX6_tellCounters 63 = .ok (.getfield 64, 3) := by decide +kernel
theorem dX6_tellCounters_66 : decode cX6_tellCounters 66 = .ok (.getfield 164, 3) := by decide +kernel
theorem dX6_tellCounters_69 : decode cX6_tellCounters 69 = .ok (.iload_n 2, 1) := by decide +kernel
theorem dX6_tellCounters_70 : decode cX6_tellCounters 70 = .ok (.iaload, 1) := by decide +kernel
theorem dX6_tellCounters_71 : decode cX6_tellCounters 71 = .ok (.iastore, 1) := by decide +kernel
theorem dX6_tellCounters_72 : decode cX6_tellCounters 72 = .ok (.iinc 2 1, 3) := by decide +kernel
theorem dX6_tellCounters_75 : decode cX6_tellCounters 75 = .ok (.goto (-29), 3) := by decide +kernel
theorem dX6_tellCounters_78 : decode cX6_tellCounters 78 = .ok (.iinc 1 1, 3) := by decide +kernel
theorem dX6_tellCounters_81 : decode cX6_tellCounters 81 = .ok (.goto (-71), 3) := by decide +kernel
theorem dX6_tellCounters_84 : decode cX6_tellCounters 84 = .ok (.return_, 1) := by decide +kernel
theorem dX6_lastPage_0 : decode cX6_lastPage 0 = .ok (.aload_n 0, 1) := by decide +kernel
theorem dX6_lastPage_1 : decode cX6_lastPage 1 = .ok (.getfield 15, 3) := by decide +kernel
theorem dX6_lastPage_4 : decode cX6_lastPage 4 = .ok (.iload_n 1, 1) := by decide +kernel
theorem dX6_lastPage_5 : decode cX6_lastPage 5 = .ok (.iaload, 1) := by decide +kernel
theorem dX6_lastPage_6 : decode cX6_lastPage 6 = .ok (.ifCond .ne 5, 3) := by decide +kernel
theorem dX6_lastPage_9 : decode cX6_lastPage 9 = .ok (.iconst (-1), 1) := by decide +kernel
theorem dX6_lastPage_10 : decode cX6_lastPage 10 = .ok (.ireturn, 1) := by decide +kernel
theorem dX6_lastPage_11 : decode cX6_lastPage 11 = .ok (.iload_n 1, 1) := by decide +kernel
theorem dX6_lastPage_12 : decode cX6_lastPage 12 = .ok (.iconst 1, 1) := by decide +kernel
theorem dX6_lastPage_13 : decode cX6_lastPage 13 = .ok (.iadd, 1) := by decide +kernel
theorem dX6_lastPage_14 : decode cX6_lastPage 14 = .ok (.istore_n 3, 1) := by decide +kernel
theorem dX6_lastPage_15 : decode cX6_lastPage 15 = .ok (.iload_n 3, 1) := by decide +kernel
theorem dX6_lastPage_16 : decode cX6_lastPage 16 = .ok (.aload_n 0, 1) := by decide +kernel
theorem dX6_lastPage_17 : decode cX6_lastPage 17 = .ok (.getfield 53, 3) := by decide +kernel
theorem dX6_lastPage_20 : decode cX6_lastPage 20 = .ok (.getfield 76, 3) := by decide +kernel
theorem dX6_lastPage_23 : decode cX6_lastPage 23 = .ok (.if_icmp .ge 43, 3) := by decide +kernel
theorem dX6_lastPage_26 : decode cX6_lastPage 26 = .ok (.aload_n 0, 1) := by decide +kernel
theorem dX6_lastPage_27 : decode cX6_lastPage 27 = .ok (.getfield 15, 3) := by decide +kernel
theorem dX6_lastPage_30 : decode cX6_lastPage 30 = .ok (.iload_n 3, 1) := by decide +kernel
theorem dX6_lastPage_31 : decode cX6_lastPage 31 = .ok (.iaload, 1) := by decide +kernel
theorem dX6_lastPage_32 : decode cX6_lastPage 32 = .ok (.ifCond .le 28, 3) := by decide +kernel
theorem dX6_lastPage_35 : decode cX6_lastPage 35 = .ok (.aload_n 0, 1) := by decide +kernel
theorem dX6_lastPage_36 : decode cX6_lastPage 36 = .ok (.getfield 15, 3) := by decide +kernel
theorem dX6_lastPage_39 : decode cX6_lastPage 39 = .ok (.iload_n 3, 1) := by decide +kernel
theorem dX6_lastPage_40 : decode cX6_lastPage 40 = .ok (.iaload, 1) := by decide +kernel
theorem dX6_lastPage_41 : decode cX6_lastPage 41 = .ok (.aload_n 0, 1) := by decide +kernel
theorem dX6_lastPage_42 : decode cX6_lastPage 42 = .ok (.getfield 15, 3) := by decide +kernel
theorem dX6_lastPage_45 : decode cX6_lastPage 45 = .ok (.iload_n 1, 1) := by decide +kernel
theorem dX6_lastPage_46 : decode cX6_lastPage 46 = .ok (.iaload, 1) := by decide +kernel
theorem dX6_lastPage_47 : decode cX6_lastPage 47 = .ok (.if_icmp .gt 13, 3) := by decide +kernel
theorem dX6_lastPage_50 : decode cX6_lastPage 50 = .ok (.aload_n 0, 1) := by decide +kernel
theorem dX6_lastPage_51 : decode cX6_lastPage 51 = .ok (.getfield 53, 3) := by decide +kernel
theorem dX6_lastPage_54 : decode cX6_lastPage 54 = .ok (.getfield 169, 3) := by decide +kernel
theorem dX6_lastPage_57 : decode cX6_lastPage 57 = .ok (.iload_n 3, 1) := by decide +kernel
theorem dX6_lastPage_58 : decode cX6_lastPage 58 = .ok (.iaload, 1) := by decide +kernel
theorem dX6_lastPage_59 : decode cX6_lastPage 59 = .ok (.ireturn, 1) := by decide +kernel
theorem dX6_lastPage_60 : decode cX6_lastPage 60 = .ok (.iinc 3 1, 3) := by decide +kernel
theorem dX6_lastPage_63 : decode cX6_lastPage 63 = .ok (.goto (-48), 3) := by decide +kernel
theorem dX6_lastPage_66 : decode cX6_lastPage 66 = .ok (.iload_n 2, 1) := by decide +kernel
theorem dX6_lastPage_67 : decode cX6_lastPage 67 = .ok (.ireturn, 1) := by decide +kernel
theorem dX6_headAbove_0 : decode cX6_headAbove 0 = .ok (.iload_n 1, 1) := by decide +kernel
theorem dX6_headAbove_1 : decode cX6_headAbove 1 = .ok (.iconst 1, 1) := by decide +kernel
theorem dX6_headAbove_2 : decode cX6_headAbove 2 = .ok (.isub, 1) := by decide +kernel
theorem dX6_headAbove_3 : decode cX6_headAbove 3 = .ok (.istore_n 2, 1) := by decide +kernel
theorem dX6_headAbove_4 : decode cX6_headAbove 4 = .ok (.iload_n 2, 1) := by decide +kernel
theorem dX6_headAbove_5 : decode cX6_headAbove 5 = .ok (.ifCond .lt 35, 3) := by decide +kernel
theorem dX6_headAbove_8 : decode cX6_headAbove 8 = .ok (.aload_n 0, 1) := by decide +kernel
theorem dX6_headAbove_9 : decode cX6_headAbove 9 = .ok (.getfield 15, 3) := by decide +kernel
theorem dX6_headAbove_12 : decode cX6_headAbove 12 = .ok (.iload_n 2, 1) := by decide +kernel
theorem dX6_headAbove_13 : decode cX6_headAbove 13 = .ok (.iaload, 1) := by decide +kernel
theorem dX6_headAbove_14 : decode cX6_headAbove 14 = .ok (.ifCond .le 20, 3) := by decide +kernel
theorem dX6_headAbove_17 : decode cX6_headAbove 17 = .ok (.aload_n 0, 1) := by decide +kernel
theorem dX6_headAbove_18 : decode cX6_headAbove 18 = .ok (.getfield 15, 3) := by decide +kernel
theorem dX6_headAbove_21 : decode cX6_headAbove 21 = .ok (.iload_n 2, 1) := by decide +kernel
theorem dX6_headAbove_22 : decode cX6_headAbove 22 = .ok (.iaload, 1) := by decide +kernel
theorem dX6_headAbove_23 : decode cX6_headAbove 23 = .ok (.aload_n 0, 1) := by decide +kernel
theorem dX6_headAbove_24 : decode cX6_headAbove 24 = .ok (.getfield 15, 3) := by decide +kernel
theorem dX6_headAbove_27 : decode cX6_headAbove 27 = .ok (.iload_n 1, 1) := by decide +kernel
theorem dX6_headAbove_28 : decode cX6_headAbove 28 = .ok (.iaload, 1) := by decide +kernel
theorem dX6_headAbove_29 : decode cX6_headAbove 29 = .ok (.if_icmp .ge 5, 3) := by decide +kernel
theorem dX6_headAbove_32 : decode cX6_headAbove 32 = .ok (.iload_n 2, 1) := by decide +kernel
theorem dX6_headAbove_33 : decode cX6_headAbove 33 = .ok (.ireturn, 1) := by decide +kernel
theorem dX6_headAbove_34 : decode cX6_headAbove 34 = .ok (.iinc 2 (-1), 3) := by decide +kernel
theorem dX6_headAbove_37 : decode cX6_headAbove 37 = .ok (.goto (-33), 3) := by decide +kernel
theorem dX6_headAbove_40 : decode cX6_headAbove 40 = .ok (.iconst (-1), 1) := by decide +kernel
theorem dX6_headAbove_41 : decode cX6_headAbove 41 = .ok (.ireturn, 1) := by decide +kernel
theorem dX7_init_0 : decode cX7_init 0 = .ok (.aload_n 0, 1) := by decide +kernel
theorem dX7_init_1 : decode cX7_init 1 = .ok (.invokespecial 1, 3) := by decide +kernel
theorem dX7_init_4 : decode cX7_init 4 = .ok (.new 7, 3) := by decide +kernel
theorem dX7_init_7 : decode cX7_init 7 = .ok (.dup, 1) := by decide +kernel
theorem dX7_init_8 : decode cX7_init 8 = .ok (.invokespecial 9, 3) := by decide +kernel
theorem dX7_init_11 : decode cX7_init 11 = .ok (.astore_n 1, 1) := by decide +kernel
theorem dX7_init_12 : decode cX7_init 12 = .ok (.new 10, 3) := by decide +kernel
theorem dX7_init_15 : decode cX7_init 15 = .ok (.dup, 1) := by decide +kernel
theorem dX7_init_16 : decode cX7_init 16 = .ok (.invokespecial 12, 3) := by decide +kernel
theorem dX7_init_19 : decode cX7_init 19 = .ok (.astore_n 2, 1) := by decide +kernel
theorem dX7_init_20 : decode cX7_init 20 = .ok (.new 13, 3) := by decide +kernel
theorem dX7_init_23 : decode cX7_init 23 = .ok (.dup, 1) := by decide +kernel
theorem dX7_init_24 : decode cX7_init 24 = .ok (.invokespecial 15, 3) := by decide +kernel
theorem dX7_init_27 : decode cX7_init 27 = .ok (.astore_n 3, 1) := by decide +kernel
theorem dX7_init_28 : decode cX7_init 28 = .ok (.new 16, 3) := by decide +kernel
theorem dX7_init_31 : decode cX7_init 31 = .ok (.dup, 1) := by decide +kernel
theorem dX7_init_32 : decode cX7_init 32 = .ok (.aload_n 3, 1) := by decide +kernel
theorem dX7_init_33 : decode cX7_init 33 = .ok (.aload_n 1, 1) := by decide +kernel
theorem dX7_init_34 : decode cX7_init 34 = .ok (.invokespecial 18, 3) := by decide +kernel
theorem dX7_init_37 : decode cX7_init 37 = .ok (.astore 4, 2) := by decide +kernel
theorem dX7_init_39 : decode cX7_init 39 = .ok (.aload_n 0, 1) := by decide +kernel
theorem dX7_init_40 : decode cX7_init 40 = .ok (.aload_n 1, 1) := by decide +kernel
theorem dX7_init_41 : decode cX7_init 41 = .ok (.putfield 21, 3) := by decide +kernel
theorem dX7_init_44 : decode cX7_init 44 = .ok (.aload_n 0, 1) := by decide +kernel
theorem dX7_init_45 : decode cX7_init 45 = .ok (.aload_n 2, 1) := by decide +kernel
theorem dX7_init_46 : decode cX7_init 46 = .ok (.putfield 27, 3) := by decide +kernel
theorem dX7_init_49 : decode cX7_init 49 = .ok (.aload_n 0, 1) := by decide +kernel
theorem dX7_init_50 : decode cX7_init 50 = .ok (.aload_n 3, 1) := by decide +kernel
theorem dX7_init_51 : decode cX7_init 51 = .ok (.putfield 31, 3) := by decide +kernel
theorem dX7_init_54 : decode cX7_init 54 = .ok (.aload_n 0, 1) := by decide +kernel
theorem dX7_init_55 : decode cX7_init 55 = .ok (.aload 4, 2) := by decide +kernel
theorem dX7_init_57 : decode cX7_init 57 = .ok (.putfield 35, 3) := by decide +kernel
theorem dX7_init_60 : decode cX7_init 60 = .ok (.aload_n 0, 1) := by decide +kernel
theorem dX7_init_61 : decode cX7_init 61 = .ok (.new 39, 3) := by decide +kernel
theorem dX7_init_64 : decode cX7_init 64 = .ok (.dup, 1) := by decide +kernel
theorem dX7_init_65 : decode cX7_init 65 = .ok (.aload_n 3, 1) := by decide +kernel
theorem dX7_init_66 : decode cX7_init 66 = .ok (.aload_n 2, 1) := by decide +kernel
theorem dX7_init_67 : decode cX7_init 67 = .ok (.aload 4, 2) := by decide +kernel
theorem dX7_init_69 : decode cX7_init 69 = .ok (.aload_n 1, 1) := by decide +kernel
theorem dX7_init_70 : decode cX7_init 70 = .ok (.invokespecial 41, 3) := by decide +kernel
theorem dX7_init_73 : decode cX7_init 73 = .ok (.putfield 44, 3) := by decide +kernel
theorem dX7_init_76 : decode cX7_init 76 = .ok (.aload_n 0, 1) := by decide +kernel
theorem dX7_init_77 : decode cX7_init 77 = .ok (.new 48, 3) := by decide +kernel
theorem dX7_init_80 : decode cX7_init 80 = .ok (.dup, 1) := by decide +kernel
theorem dX7_init_81 : decode cX7_init 81 = .ok (.aload_n 2, 1) := by decide +kernel
theorem dX7_init_82 : decode cX7_init 82 = .ok (.aload_n 1, 1) := by decide +kernel
theorem dX7_init_83 : decode cX7_init 83 = .ok (.invokespecial 50, 3) := by decide +kernel
theorem dX7_init_86 : decode cX7_init 86 = .ok (.putfield 53, 3) := by decide +kernel
theorem dX7_init_89 : decode cX7_init 89 = .ok (.aload_n 0, 1) := by decide +kernel
theorem dX7_init_90 : decode cX7_init 90 = .ok (.iconst 1, 1) := by decide +kernel
theorem dX7_init_91 : decode cX7_init 91 = .ok (.putfield 57, 3) := by decide +kernel
theorem dX7_init_94 : decode cX7_init 94 = .ok (.aload_n 0, 1) := by decide +kernel
theorem dX7_init_95 : decode cX7_init 95 = .ok (.iconst 1, 1) := by decide +kernel
theorem dX7_init_96 : decode cX7_init 96 = .ok (.putfield 61, 3) := by decide +kernel
theorem dX7_init_99 : decode cX7_init 99 = .ok (.aload_n 0, 1) := by decide +kernel
theorem dX7_init_100 : decode cX7_init 100 = .ok (.iconst 1, 1) := by decide +kernel
theorem dX7_init_101 : decode cX7_init 101 = .ok (.putfield 64, 3) := by decide +kernel
theorem dX7_init_104 : decode cX7_init 104 = .ok (.return_, 1) := by decide +kernel
theorem dX7_book_0 : decode cX7_book 0 = .ok (.iload_n 1, 1) := by decide +kernel
theorem dX7_book_1 : decode cX7_book 1 = .ok (.iconst 1, 1) := by decide +kernel
theorem dX7_book_2 : decode cX7_book 2 = .ok (.bipush 60, 2) := by decide +kernel
theorem dX7_book_4 : decode cX7_book 4 = .ok (.invokestatic 67, 3) := by decide +kernel
theorem dX7_book_7 : decode cX7_book 7 = .ok (.ifCond .ne 5, 3) := by decide +kernel
theorem dX7_book_10 : decode cX7_book 10 = .ok (.iconst 0, 1) := by decide +kernel
theorem dX7_book_11 : decode cX7_book 11 = .ok (.ireturn, 1) := by decide +kernel
theorem dX7_book_12 : decode cX7_book 12 = .ok (.aload_n 0, 1) := by decide +kernel
theorem dX7_book_13 : decode cX7_book 13 = .ok (.getfield 27, 3) := by decide +kernel
theorem dX7_book_16 : decode cX7_book 16 = .ok (.iload_n 1, 1) := by decide +kernel
theorem dX7_book_17 : decode cX7_book 17 = .ok (.invokevirtual 71, 3) := by decide +kernel
theorem dX7_book_20 : decode cX7_book 20 = .ok (.aload_n 0, 1) := by decide +kernel
theorem dX7_book_21 : decode cX7_book 21 = .ok (.getfield 31, 3) := by decide +kernel
theorem dX7_book_24 : decode cX7_book 24 = .ok (.iconst 0, 1) := by decide +kernel
theorem dX7_book_25 : decode cX7_book 25 = .ok (.putfield 75, 3) := by decide +kernel
theorem dX7_book_28 : decode cX7_book 28 = .ok (.aload_n 0, 1) := by decide +kernel
theorem dX7_book_29 : decode cX7_book 29 = .ok (.getfield 44, 3) := by decide +kernel
theorem dX7_book_32 : decode cX7_book 32 = .ok (.iconst 0, 1) := by decide +kernel
theorem dX7_book_33 : decode cX7_book 33 = .ok (.putfield 79, 3) := by decide +kernel
theorem dX7_book_36 : decode cX7_book 36 = .ok (.aload_n 0, 1) := by decide +kernel
theorem dX7_book_37 : decode cX7_book 37 = .ok (.invokevirtual 80, 3) := by decide +kernel
theorem dX7_book_40 : decode cX7_book 40 = .ok (.iconst 1, 1) := by decide +kernel
theorem dX7_book_41 : decode cX7_book 41 = .ok (.ireturn, 1) := by decide +kernel
theorem dX7_read_0 : decode cX7_read 0 = .ok (.aload_n 0, 1) := by decide +kernel
theorem dX7_read_1 : decode cX7_read 1 = .ok (.getfield 27, 3) := by decide +kernel
theorem dX7_read_4 : decode cX7_read 4 = .ok (.iload_n 1, 1) := by decide +kernel
theorem dX7_read_5 : decode cX7_read 5 = .ok (.invokevirtual 83, 3) := by decide +kernel
theorem dX7_read_8 : decode cX7_read 8 = .ok (.ifCond .eq 14, 3) := by decide +kernel
theorem dX7_read_11 : decode cX7_read 11 = .ok (.iload_n 2, 1) := by decide +kernel
theorem dX7_read_12 : decode cX7_read 12 = .ok (.iconst 0, 1) := by decide +kernel
theorem dX7_read_13 : decode cX7_read 13 = .ok (.sipush 999, 3) := by decide +kernel
theorem dX7_read_16 : decode cX7_read 16 = .ok (.invokestatic 67, 3) := by decide +kernel
theorem dX7_read_19 : decode cX7_read 19 = .ok (.ifCond .ne 5, 3) := by decide +kernel
theorem dX7_read_22 : decode cX7_read 22 = .ok (.iconst 0, 1) := by decide +kernel
theorem dX7_read_23 : decode cX7_read 23 = .ok (.ireturn, 1) := by decide +kernel
theorem dX7_read_24 : decode cX7_read 24 = .ok (.aload_n 0, 1) := by decide +kernel
theorem dX7_read_25 : decode cX7_read 25 = .ok (.getfield 27, 3) := by decide +kernel
theorem dX7_read_28 : decode cX7_read 28 = .ok (.getfield 87, 3) := by decide +kernel
theorem dX7_read_31 : decode cX7_read 31 = .ok (.iload_n 1, 1) := by decide +kernel
theorem dX7_read_32 : decode cX7_read 32 = .ok (.iload_n 2, 1) := by decide +kernel
theorem dX7_read_33 : decode cX7_read 33 = .ok (.iastore, 1) := by decide +kernel
theorem dX7_read_34 : decode cX7_read 34 = .ok (.aload_n 0, 1) := by decide +kernel
theorem dX7_read_35 : decode cX7_read 35 = .ok (.iconst 1, 1) := by decide +kernel
theorem dX7_read_36 : decode cX7_read 36 = .ok (.putfield 61, 3) := by decide +kernel
theorem dX7_read_39 : decode cX7_read 39 = .ok (.aload_n 0, 1) := by decide +kernel
theorem dX7_read_40 : decode cX7_read 40 = .ok (.iconst 1, 1) := by decide +kernel
theorem dX7_read_41 : decode cX7_read 41 = .ok (.putfield 64, 3) := by decide +kernel
theorem dX7_read_44 : decode cX7_read 44 = .ok (.iconst 1, 1) := by decide +kernel
theorem dX7_read_45 : decode cX7_read 45 = .ok (.ireturn, 1) := by decide +kernel
theorem dX7_line_0 : decode cX7_line 0 = .ok (.aload_n 0, 1) := by decide +kernel
theorem dX7_line_1 : decode cX7_line 1 = .ok (.getfield 27, 3) := by decide +kernel
theorem dX7_line_4 : decode cX7_line 4 = .ok (.iload_n 1, 1) := by decide +kernel
theorem dX7_line_5 : decode cX7_line 5 = .ok (.invokevirtual 83, 3) := by decide +kernel
theorem dX7_line_8 : decode cX7_line 8 = .ok (.ifCond .eq 14, 3) := by decide +kernel
theorem dX7_line_11 : decode cX7_line 11 = .ok (.aload_n 0, 1) := by decide +kernel
theorem dX7_line_12 : decode cX7_line 12 = .ok (.getfield 31, 3) := by decide +kernel
theorem dX7_line_15 : decode cX7_line 15 = .ok (.iload_n 1, 1) := by decide +kernel
theorem dX7_line_16 : decode cX7_line 16 = .ok (.invokevirtual 91, 3) := by decide +kernel
theorem dX7_line_19 : decode cX7_line 19 = .ok (.ifCond .ne 5, 3) := by decide +kernel
theorem dX7_line_22 : decode cX7_line 22 = .ok (.iconst (-1), 1) := by decide +kernel
theorem dX7_line_23 : decode cX7_line 23 = .ok (.ireturn, 1) := by decide +kernel
theorem dX7_line_24 : decode cX7_line 24 = .ok (.iload_n 2, 1) := by decide +kernel
theorem dX7_line_25 : decode cX7_line 25 = .ok (.iconst 0, 1) := by decide +kernel
theorem dX7_line_26 : decode cX7_line 26 = .ok (.bipush 9, 2) := by decide +kernel
theorem dX7_line_28 : decode cX7_line 28 = .ok (.invokestatic 67, 3) := by decide +kernel
theorem dX7_line_31 : decode cX7_line 31 = .ok (.ifCond .eq 13, 3) := by decide +kernel
theorem dX7_line_34 : decode cX7_line 34 = .ok (.iload_n 3, 1) := by decide +kernel
theorem dX7_line_35 : decode cX7_line 35 = .ok (.iconst 0, 1) := by decide +kernel
theorem dX7_line_36 : decode cX7_line 36 = .ok (.bipush 9, 2) := by decide +kernel
theorem dX7_line_38 : decode cX7_line 38 = .ok (.invokestatic 67, 3) := by decide +kernel
theorem dX7_line_41 : decode cX7_line 41 = .ok (.ifCond .ne 5, 3) := by decide +kernel
theorem dX7_line_44 : decode cX7_line 44 = .ok (.iconst (-1), 1) := by decide +kernel
theorem dX7_line_45 : decode cX7_line 45 = .ok (.ireturn, 1) := by decide +kernel
theorem dX7_line_46 : decode cX7_line 46 = .ok (.iload 5, 2) := by decide +kernel
theorem dX7_line_48 : decode cX7_line 48 = .ok (.invokestatic 94, 3) := by decide +kernel
theorem dX7_line_51 : decode cX7_line 51 = .ok (.ifCond .eq 19, 3) := by decide +kernel
theorem dX7_line_54 : decode cX7_line 54 = .ok (.iload 6, 2) := by decide +kernel
theorem dX7_line_56 : decode cX7_line 56 = .ok (.invokestatic 94, 3) := by decide +kernel
theorem dX7_line_59 : decode cX7_line 59 = .ok (.ifCond .eq 11, 3) := by decide +kernel
theorem dX7_line_62 : decode cX7_line 62 = .ok (.iload 7, 2) := by decide +kernel
theorem dX7_line_64 : decode cX7_line 64 = .ok (.invokestatic 97, 3) := by decide +kernel
theorem dX7_line_67 : decode cX7_line 67 = .ok (.ifCond .ne 5, 3) := by decide +kernel
theorem dX7_line_70 : decode cX7_line 70 = .ok (.iconst (-1), 1) := by decide +kernel
theorem dX7_line_71 : decode cX7_line 71 = .ok (.ireturn, 1) := by decide +kernel
theorem dX7_line_72 : decode cX7_line 72 = .ok (.aload_n 0, 1) := by decide +kernel
theorem dX7_line_73 : decode cX7_line 73 = .ok (.getfield 31, 3) := by decide +kernel
theorem dX7_line_76 : decode cX7_line 76 = .ok (.getfield 75, 3) := by decide +kernel
theorem dX7_line_79 : decode cX7_line 79 = .ok (.istore 8, 2) := by decide +kernel
theorem dX7_line_81 : decode cX7_line 81 = .ok (.aload_n 0, 1) := by decide +kernel
theorem dX7_line_82 : decode cX7_line 82 = .ok (.getfield 31, 3) := by decide +kernel
theorem dX7_line_85 : decode cX7_line 85 = .ok (.getfield 100, 3) := by decide +kernel
theorem dX7_line_88 : decode cX7_line 88 = .ok (.iload 8, 2) := by decide +kernel
theorem dX7_line_90 : decode cX7_line 90 = .ok (.iload_n 1, 1) := by decide +kernel
theorem dX7_line_91 : decode cX7_line 91 = .ok (.iastore, 1) := by decide +kernel
theorem dX7_line_92 : decode cX7_line 92 = .ok (.aload_n 0, 1) := by decide +kernel
theorem dX7_line_93 : decode cX7_line 93 = .ok (.getfield 31, 3) := by decide +kernel
theorem dX7_line_96 : decode cX7_line 96 = .ok (.getfield 103, 3) := by decide +kernel
theorem dX7_line_99 : decode cX7_line 99 = .ok (.iload 8, 2) := by decide +kernel
theorem dX7_line_101 : decode cX7_line 101 = .ok (.iload_n 3, 1) := by decide +kernel
theorem dX7_line_102 : decode cX7_line 102 = .ok (.iastore, 1) := by decide +kernel
theorem dX7_line_103 : decode cX7_line 103 = .ok (.aload_n 0, 1) := by decide +kernel
theorem dX7_line_104 : decode cX7_line 104 = .ok (.getfield 31, 3) := by decide +kernel
theorem dX7_line_107 : decode cX7_line 107 = .ok (.getfield 106, 3) := by decide +kernel
theorem dX7_line_110 : decode cX7_line 110 = .ok (.iload 8, 2) := by decide +kernel
theorem dX7_line_112 : decode cX7_line 112 = .ok (.iload 4, 2) := by decide +kernel
theorem dX7_line_114 : decode cX7_line 114 = .ok (.bastore, 1) := by decide +kernel
theorem dX7_line_115 : decode cX7_line 115 = .ok (.aload_n 0, 1) := by decide +kernel
theorem dX7_line_116 : decode cX7_line 116 = .ok (.getfield 31, 3) := by decide +kernel
theorem dX7_line_119 : decode cX7_line 119 = .ok (.getfield 110, 3) := by decide +kernel
theorem dX7_line_122 : decode cX7_line 122 = .ok (.iload 8, 2) := by decide +kernel
theorem dX7_line_124 : decode cX7_line 124 = .ok (.iload 5, 2) := by decide +kernel
theorem dX7_line_126 : decode cX7_line 126 = .ok (.iastore, 1) := by decide +kernel
theorem dX7_line_127 : decode cX7_line 127 = .ok (.aload_n 0, 1) := by decide +kernel
theorem dX7_line_128 : decode cX7_line 128 = .ok (.getfield 31, 3) := by decide +kernel
theorem dX7_line_131 : decode cX7_line 131 = .ok (.getfield 113, 3) := by decide +kernel
theorem dX7_line_134 : decode cX7_line 134 = .ok (.iload 8, 2) := by decide +kernel
theorem dX7_line_136 : decode cX7_line 136 = .ok (.iload 6, 2) := by decide +kernel
theorem dX7_line_138 : decode cX7_line 138 = .ok (.iastore, 1) := by decide +kernel
theorem dX7_line_139 : decode cX7_line 139 = .ok (.aload_n 0, 1) := by decide +kernel
theorem dX7_line_140 : decode cX7_line 140 = .ok (.getfield 31, 3) := by decide +kernel
theorem dX7_line_143 : decode cX7_line 143 = .ok (.iload 8, 2) := by decide +kernel
theorem dX7_line_145 : decode cX7_line 145 = .ok (.iload_n 2, 1) := by decide +kernel
theorem dX7_line_146 : decode cX7_line 146 = .ok (.iload 7, 2) := by decide +kernel
theorem dX7_line_148 : decode cX7_line 148 = .ok (.invokevirtual 116, 3) := by decide +kernel
theorem dX7_line_151 : decode cX7_line 151 = .ok (.aload_n 0, 1) := by decide +kernel
theorem dX7_line_152 : decode cX7_line 152 = .ok (.getfield 31, 3) := by decide +kernel
theorem dX7_line_155 : decode cX7_line 155 = .ok (.iload 8, 2) := by decide +kernel
theorem dX7_line_157 : decode cX7_line 157 = .ok (.iconst 1, 1) := by decide +kernel
theorem dX7_line_158 : decode cX7_line 158 = .ok (.iadd, 1) := by decide +kernel
theorem dX7_line_159 : decode cX7_line 159 = .ok (.putfield 75, 3) := by decide +kernel
theorem dX7_line_162 : decode cX7_line 162 = .ok (.aload_n 0, 1) := by decide +kernel
theorem dX7_line_163 : decode cX7_line 163 = .ok (.iconst 1, 1) := by decide +kernel
theorem dX7_line_164 : decode cX7_line 164 = .ok (.putfield 57, 3) := by decide +kernel
theorem dX7_line_167 : decode cX7_line 167 = .ok (.iload 8, 2) := by decide +kernel
theorem dX7_line_169 : decode cX7_line 169 = .ok (.ireturn, 1) := by decide +kernel
theorem dX7_right_0 : decode cX7_right 0 = .ok (.aload_n 0, 1) := by decide +kernel
theorem dX7_right_1 : decode cX7_right 1 = .ok (.getfield 31, 3) := by decide +kernel
theorem dX7_right_4 : decode cX7_right 4 = .ok (.iload_n 1, 1) := by decide +kernel
theorem dX7_right_5 : decode cX7_right 5 = .ok (.invokevirtual 120, 3) := by decide +kernel
theorem dX7_right_8 : decode cX7_right 8 = .ok (.ifCond .eq 20, 3) := by decide +kernel
theorem dX7_right_11 : decode cX7_right 11 = .ok (.iload_n 2, 1) := by decide +kernel
theorem dX7_right_12 : decode cX7_right 12 = .ok (.iconst 0, 1) := by decide +kernel
theorem dX7_right_13 : decode cX7_right 13 = .ok (.bipush 9, 2) := by decide +kernel
theorem dX7_right_15 : decode cX7_right 15 = .ok (.invokestatic 67, 3) := by decide +kernel
theorem dX7_right_18 : decode cX7_right 18 = .ok (.ifCond .eq 10, 3) := by decide +kernel
theorem dX7_right_21 : decode cX7_right 21 = .ok (.iload_n 3, 1) := by decide +kernel
theorem dX7_right_22 : decode cX7_right 22 = .ok (.invokestatic 97, 3) := by decide +kernel
theorem dX7_right_25 : decode cX7_right 25 = .ok (.ifCond .ne 5, 3) := by decide +kernel
theorem dX7_right_28 : decode cX7_right 28 = .ok (.iconst 0, 1) := by decide +kernel
theorem dX7_right_29 : decode cX7_right 29 = .ok (.ireturn, 1) := by decide +kernel
theorem dX7_right_30 : decode cX7_right 30 = .ok (.aload_n 0, 1) := by decide +kernel
theorem dX7_right_31 : decode cX7_right 31 = .ok (.getfield 31, 3) := by decide +kernel
theorem dX7_right_34 : decode cX7_right 34 = .ok (.iload_n 1, 1) := by decide +kernel
theorem dX7_right_35 : decode cX7_right 35 = .ok (.iload_n 2, 1) := by decide +kernel
theorem dX7_right_36 : decode cX7_right 36 = .ok (.iload_n 3, 1) := by decide +kernel
theorem dX7_right_37 : decode cX7_right 37 = .ok (.invokevirtual 116, 3) := by decide +kernel
theorem dX7_right_40 : decode cX7_right 40 = .ok (.aload_n 0, 1) := by decide +kernel
theorem dX7_right_41 : decode cX7_right 41 = .ok (.iconst 1, 1) := by decide +kernel
theorem dX7_right_42 : decode cX7_right 42 = .ok (.putfield 57, 3) := by decide +kernel
theorem dX7_right_45 : decode cX7_right 45 = .ok (.iconst 1, 1) := by decide +kernel
theorem dX7_right_46 : decode cX7_right 46 = .ok (.ireturn, 1) := by decide +kernel
theorem dX7_drop_0 : decode cX7_drop 0 = .ok (.aload_n 0, 1) := by decide +kernel
theorem dX7_drop_1 : decode cX7_drop 1 = .ok (.getfield 31, 3) := by decide +kernel
theorem dX7_drop_4 : decode cX7_drop 4 = .ok (.getfield 75, 3) := by decide +kernel
theorem dX7_drop_7 : decode cX7_drop 7 = .ok (.ifCond .ne 5, 3) := by decide +kernel
theorem dX7_drop_10 : decode cX7_drop 10 = .ok (.iconst (-1), 1) := by decide +kernel
theorem dX7_drop_11 : decode cX7_drop 11 = .ok (.ireturn, 1) := by decide +kernel
theorem dX7_drop_12 : decode cX7_drop 12 = .ok (.aload_n 0, 1) := by decide +kernel
theorem dX7_drop_13 : decode cX7_drop 13 = .ok (.getfield 31, 3) := by decide +kernel
theorem dX7_drop_16 : decode cX7_drop 16 = .ok (.dup, 1) := by decide +kernel
theorem dX7_drop_17 : decode cX7_drop 17 = .ok (.getfield 75, 3) := by decide +kernel
theorem dX7_drop_20 : decode cX7_drop 20 = .ok (.iconst 1, 1) := by decide +kernel
theorem dX7_drop_21 : decode cX7_drop 21 = .ok (.isub, 1) := by decide +kernel
theorem dX7_drop_22 : decode cX7_drop 22 = .ok (.putfield 75, 3) := by decide +kernel
theorem dX7_drop_25 : decode cX7_drop 25 = .ok (.aload_n 0, 1) := by decide +kernel
theorem dX7_drop_26 : decode cX7_drop 26 = .ok (.iconst 1, 1) := by decide +kernel
theorem dX7_drop_27 : decode cX7_drop 27 = .ok (.putfield 57, 3) := by decide +kernel
theorem dX7_drop_30 : decode cX7_drop 30 = .ok (.aload_n 0, 1) := by decide +kernel
theorem dX7_drop_31 : decode cX7_drop 31 = .ok (.getfield 31, 3) := by decide +kernel
theorem dX7_drop_34 : decode cX7_drop 34 = .ok (.getfield 75, 3) := by decide +kernel
theorem dX7_drop_37 : decode cX7_drop 37 = .ok (.ireturn, 1) := by decide +kernel
theorem dX7_price_0 : decode cX7_price 0 = .ok (.iload_n 1, 1) := by decide +kernel
theorem dX7_price_1 : decode cX7_price 1 = .ok (.iconst 0, 1) := by decide +kernel
theorem dX7_price_2 : decode cX7_price 2 = .ok (.bipush 9, 2) := by decide +kernel
theorem dX7_price_4 : decode cX7_price 4 = .ok (.invokestatic 67, 3) := by decide +kernel
theorem dX7_price_7 : decode cX7_price 7 = .ok (.ifCond .eq 13, 3) := by decide +kernel
theorem dX7_price_10 : decode cX7_price 10 = .ok (.iload_n 2, 1) := by decide +kernel
theorem dX7_price_11 : decode cX7_price 11 = .ok (.iconst 0, 1) := by decide +kernel
theorem dX7_price_12 : decode cX7_price 12 = .ok (.bipush 50, 2) := by decide +kernel
theorem dX7_price_14 : decode cX7_price 14 = .ok (.invokestatic 67, 3) := by decide +kernel
theorem dX7_price_17 : decode cX7_price 17 = .ok (.ifCond .ne 5, 3) := by decide +kernel
theorem dX7_price_20 : decode cX7_price 20 = .ok (.iconst (-1), 1) := by decide +kernel
theorem dX7_price_21 : decode cX7_price 21 = .ok (.ireturn, 1) := by decide +kernel
theorem dX7_price_22 : decode cX7_price 22 = .ok (.aload_n 0, 1) := by decide +kernel
theorem dX7_price_23 : decode cX7_price 23 = .ok (.getfield 21, 3) := by decide +kernel
theorem dX7_price_26 : decode cX7_price 26 = .ok (.getfield 121, 3) := by decide +kernel
theorem dX7_price_29 : decode cX7_price 29 = .ok (.iload_n 1, 1) := by decide +kernel
theorem dX7_price_30 : decode cX7_price 30 = .ok (.iaload, 1) := by decide +kernel
theorem dX7_price_31 : decode cX7_price 31 = .ok (.istore_n 3, 1) := by decide +kernel
theorem dX7_price_32 : decode cX7_price 32 = .ok (.aload_n 0, 1) := by decide +kernel
theorem dX7_price_33 : decode cX7_price 33 = .ok (.getfield 21, 3) := by decide +kernel
theorem dX7_price_36 : decode cX7_price 36 = .ok (.getfield 121, 3) := by decide +kernel
theorem dX7_price_39 : decode cX7_price 39 = .ok (.iload_n 1, 1) := by decide +kernel
theorem dX7_price_40 : decode cX7_price 40 = .ok (.iload_n 2, 1) := by decide +kernel
theorem dX7_price_41 : decode cX7_price 41 = .ok (.iastore, 1) := by decide +kernel
theorem dX7_price_42 : decode cX7_price 42 = .ok (.aload_n 0, 1) := by decide +kernel
theorem dX7_price_43 : decode cX7_price 43 = .ok (.invokevirtual 80, 3) := by decide +kernel
theorem dX7_price_46 : decode cX7_price 46 = .ok (.iload_n 3, 1) := by decide +kernel
theorem dX7_price_47 : decode cX7_price 47 = .ok (.ireturn, 1) := by decide +kernel
theorem dX7_want_0 : decode cX7_want 0 = .ok (.iload_n 1, 1) := by decide +kernel
theorem dX7_want_1 : decode cX7_want 1 = .ok (.ifCond .ne 9, 3) := by decide +kernel
theorem dX7_want_4 : decode cX7_want 4 = .ok (.aload_n 0, 1) := by decide +kernel
theorem dX7_want_5 : decode cX7_want 5 = .ok (.iload_n 2, 1) := by decide +kernel
theorem dX7_want_6 : decode cX7_want 6 = .ok (.invokevirtual 124, 3) := by decide +kernel
theorem dX7_want_9 : decode cX7_want 9 = .ok (.ireturn, 1) := by decide +kernel
theorem dX7_want_10 : decode cX7_want 10 = .ok (.iload_n 1, 1) := by decide +kernel
theorem dX7_want_11 : decode cX7_want 11 = .ok (.iconst 1, 1) := by decide +kernel
theorem dX7_want_12 : decode cX7_want 12 = .ok (.iconst 3, 1) := by decide +kernel
theorem dX7_want_13 : decode cX7_want 13 = .ok (.invokestatic 67, 3) := by decide +kernel
theorem dX7_want_16 : decode cX7_want 16 = .ok (.ifCond .eq 13, 3) := by decide +kernel
theorem dX7_want_19 : decode cX7_want 19 = .ok (.iload_n 2, 1) := by decide +kernel
theorem dX7_want_20 : decode cX7_want 20 = .ok (.iconst 0, 1) := by decide +kernel
theorem dX7_want_21 : decode cX7_want 21 = .ok (.bipush 21, 2) := by decide +kernel
theorem dX7_want_23 : decode cX7_want 23 = .ok (.invokestatic 67, 3) := by decide +kernel
theorem dX7_want_26 : decode cX7_want 26 = .ok (.ifCond .ne 5, 3) := by decide +kernel
theorem dX7_want_29 : decode cX7_want 29 = .ok (.iconst (-1), 1) := by decide +kernel
theorem dX7_want_30 : decode cX7_want 30 = .ok (.ireturn, 1) := by decide +kernel
theorem dX7_want_31 : decode cX7_want 31 = .ok (.aload_n 0, 1) := by decide +kernel
theorem dX7_want_32 : decode cX7_want 32 = .ok (.getfield 21, 3) := by decide +kernel
theorem dX7_want_35 : decode cX7_want 35 = .ok (.getfield 128, 3) := by decide +kernel
theorem dX7_want_38 : decode cX7_want 38 = .ok (.iload_n 1, 1) := by decide +kernel
theorem dX7_want_39 : decode cX7_want 39 = .ok (.iaload, 1) := by decide +kernel
theorem dX7_want_40 : decode cX7_want 40 = .ok (.istore_n 3, 1) := by decide +kernel
theorem dX7_want_41 : decode cX7_want 41 = .ok (.aload_n 0, 1) := by decide +kernel
theorem dX7_want_42 : decode cX7_want 42 = .ok (.getfield 21, 3) := by decide +kernel
theorem dX7_want_45 : decode cX7_want 45 = .ok (.getfield 128, 3) := by decide +kernel
theorem dX7_want_48 : decode cX7_want 48 = .ok (.iload_n 1, 1) := by decide +kernel
theorem dX7_want_49 : decode cX7_want 49 = .ok (.iload_n 2, 1) := by decide +kernel
theorem dX7_want_50 : decode cX7_want 50 = .ok (.iastore, 1) := by decide +kernel
theorem dX7_want_51 : decode cX7_want 51 = .ok (.aload_n 0, 1) := by decide +kernel
theorem dX7_want_52 : decode cX7_want 52 = .ok (.iconst 1, 1) := by decide +kernel
theorem dX7_want_53 : decode cX7_want 53 = .ok (.putfield 57, 3) := by decide +kernel
theorem dX7_want_56 : decode cX7_want 56 = .ok (.iload_n 3, 1) := by decide +kernel
theorem dX7_want_57 : decode cX7_want 57 = .ok (.ireturn, 1) := by decide +kernel
theorem dX7_putMany_0 : decode cX7_putMany 0 = .ok (.iload_n 1, 1) := by decide +kernel
theorem dX7_putMany_1 : decode cX7_putMany 1 = .ok (.iconst 2, 1) := by decide +kernel
theorem dX7_putMany_2 : decode cX7_putMany 2 = .ok (.bipush 60, 2) := by decide +kernel
theorem dX7_putMany_4 : decode cX7_putMany 4 = .ok (.invokestatic 67, 3) := by decide +kernel
theorem dX7_putMany_7 : decode cX7_putMany 7 = .ok (.ifCond .ne 5, 3) := by decide +kernel
theorem dX7_putMany_10 : decode cX7_putMany 10 = .ok (.iconst (-1), 1) := by decide +kernel
theorem dX7_putMany_11 : decode cX7_putMany 11 = .ok (.ireturn, 1) := by decide +kernel
theorem dX7_putMany_12 : decode cX7_putMany 12 = .ok (.aload_n 0, 1) := by decide +kernel
theorem dX7_putMany_13 : decode cX7_putMany 13 = .ok (.getfield 21, 3) := by decide +kernel
theorem dX7_putMany_16 : decode cX7_putMany 16 = .ok (.getfield 131, 3) := by decide +kernel
theorem dX7_putMany_19 : decode cX7_putMany 19 = .ok (.istore_n 2, 1) := by decide +kernel
theorem dX7_putMany_20 : decode cX7_putMany 20 = .ok (.aload_n 0, 1) := by decide +kernel
theorem dX7_putMany_21 : decode cX7_putMany 21 = .ok (.getfield 21, 3) := by decide +kernel
theorem dX7_putMany_24 : decode cX7_putMany 24 = .ok (.iload_n 1, 1) := by decide +kernel
theorem dX7_putMany_25 : decode cX7_putMany 25 = .ok (.putfield 131, 3) := by decide +kernel
theorem dX7_putMany_28 : decode cX7_putMany 28 = .ok (.aload_n 0, 1) := by decide +kernel
theorem dX7_putMany_29 : decode cX7_putMany 29 = .ok (.iconst 1, 1) := by decide +kernel
theorem dX7_putMany_30 : decode cX7_putMany 30 = .ok (.putfield 57, 3) := by decide +kernel
theorem dX7_putMany_33 : decode cX7_putMany 33 = .ok (.iload_n 2, 1) := by decide +kernel
theorem dX7_putMany_34 : decode cX7_putMany 34 = .ok (.ireturn, 1) := by decide +kernel
theorem dX7_count_0 : decode cX7_count 0 = .ok (.iload_n 1, 1) := by decide +kernel
theorem dX7_count_1 : decode cX7_count 1 = .ok (.tableswitch 123 0 8 #[51, 59, 67, 75, 83, 91, 99, 107, 115], 51) := by decide +kernel
theorem dX7_count_52 : decode cX7_count 52 = .ok (.aload_n 0, 1) := by decide +kernel
theorem dX7_count_53 : decode cX7_count 53 = .ok (.getfield 27, 3) := by decide +kernel
theorem dX7_count_56 : decode cX7_count 56 = .ok (.getfield 134, 3) := by decide +kernel
theorem dX7_count_59 : decode cX7_count 59 = .ok (.ireturn, 1) := by decide +kernel
theorem dX7_count_60 : decode cX7_count 60 = .ok (.aload_n 0, 1) := by decide +kernel
theorem dX7_count_61 : decode cX7_count 61 = .ok (.getfield 31, 3) := by decide +kernel
theorem dX7_count_64 : decode cX7_count 64 = .ok (.getfield 75, 3) := by decide +kernel
theorem dX7_count_67 : decode cX7_count 67 = .ok (.ireturn, 1) := by decide +kernel
theorem dX7_count_68 : decode cX7_count 68 = .ok (.aload_n 0, 1) := by decide +kernel
theorem dX7_count_69 : decode cX7_count 69 = .ok (.getfield 44, 3) := by decide +kernel
theorem dX7_count_72 : decode cX7_count 72 = .ok (.getfield 79, 3) := by decide +kernel
theorem dX7_count_75 : decode cX7_count 75 = .ok (.ireturn, 1) := by decide +kernel
theorem dX7_count_76 : decode cX7_count 76 = .ok (.aload_n 0, 1) := by decide +kernel
theorem dX7_count_77 : decode cX7_count 77 = .ok (.invokevirtual 135, 3) := by decide +kernel
theorem dX7_count_80 : decode cX7_count 80 = .ok (.getfield 139, 3) := by decide +kernel
theorem dX7_count_83 : decode cX7_count 83 = .ok (.ireturn, 1) := by decide +kernel
theorem dX7_count_84 : decode cX7_count 84 = .ok (.aload_n 0, 1) := by decide +kernel
theorem dX7_count_85 : decode cX7_count 85 = .ok (.invokevirtual 135, 3) := by decide +kernel
theorem dX7_count_88 : decode cX7_count 88 = .ok (.getfield 142, 3) := by decide +kernel
theorem dX7_count_91 : decode cX7_count 91 = .ok (.ireturn, 1) := by decide +kernel
theorem dX7_count_92 : decode cX7_count 92 = .ok (.aload_n 0, 1) := by decide +kernel
theorem dX7_count_93 : decode cX7_count 93 = .ok (.invokevirtual 145, 3) := by decide +kernel
theorem dX7_count_96 : decode cX7_count 96 = .ok (.getfield 149, 3) := by decide +kernel
theorem dX7_count_99 : decode cX7_count 99 = .ok (.ireturn, 1) := by decide +kernel
theorem dX7_count_100 : decode cX7_count 100 = .ok (.aload_n 0, 1) := by decide +kernel
theorem dX7_count_101 : decode cX7_count 101 = .ok (.invokevirtual 150, 3) := by decide +kernel
theorem dX7_count_104 : decode cX7_count 104 = .ok (.getfield 154, 3) := by decide +kernel
theorem dX7_count_107 : decode cX7_count 107 = .ok (.ireturn, 1) := by decide +kernel
theorem dX7_count_108 : decode cX7_count 108 = .ok (.aload_n 0, 1) := by decide +kernel
theorem dX7_count_109 : decode cX7_count 109 = .ok (.invokevirtual 150, 3) := by decide +kernel
theorem dX7_count_112 : decode cX7_count 112 = .ok (.getfield 155, 3) := by decide +kernel
theorem dX7_count_115 : decode cX7_count 115 = .ok (.ireturn, 1) := by decide +kernel
theorem dX7_count_116 : decode cX7_count 116 = .ok (.aload_n 0, 1) := by decide +kernel
theorem dX7_count_117 : decode cX7_count 117 = .ok (.invokevirtual 150, 3) := by decide +kernel
theorem dX7_count_120 : decode cX7_count 120 = .ok (.getfield 158, 3) := by decide +kernel
theorem dX7_count_123 : decode cX7_count 123 = .ok (.ireturn, 1) := by decide +kernel
theorem dX7_count_124 : decode cX7_count 124 = .ok (.iconst (-1), 1) := by decide +kernel
theorem dX7_count_125 : decode cX7_count 125 = .ok (.ireturn, 1) := by decide +kernel
theorem dX7_counter_0 : decode cX7_counter 0 = .ok (.aload_n 0, 1) := by decide +kernel
theorem dX7_counter_1 : decode cX7_counter 1 = .ok (.getfield 31, 3) := by decide +kernel
theorem dX7_counter_4 : decode cX7_counter 4 = .ok (.iload_n 1, 1) := by decide +kernel
theorem dX7_counter_5 : decode cX7_counter 5 = .ok (.invokevirtual 120, 3) := by decide +kernel
theorem dX7_counter_8 : decode cX7_counter 8 = .ok (.ifCond .eq 12, 3) := by decide +kernel
theorem dX7_counter_11 : decode cX7_counter 11 = .ok (.iload_n 2, 1) := by decide +kernel
theorem dX7_counter_12 : decode cX7_counter 12 = .ok (.iconst 1, 1) := by decide +kernel
theorem dX7_counter_13 : decode cX7_counter 13 = .ok (.iconst 3, 1) := by decide +kernel
theorem dX7_counter_14 : decode cX7_counter 14 = .ok (.invokestatic 67, 3) := by decide +kernel
theorem dX7_counter_17 : decode cX7_counter 17 = .ok (.ifCond .ne 5, 3) := by decide +kernel
theorem dX7_counter_20 : decode cX7_counter 20 = .ok (.iconst (-1), 1) := by decide +kernel
theorem dX7_counter_21 : decode cX7_counter 21 = .ok (.ireturn, 1) := by decide +kernel
theorem dX7_counter_22 : decode cX7_counter 22 = .ok (.aload_n 0, 1) := by decide +kernel
theorem dX7_counter_23 : decode cX7_counter 23 = .ok (.invokevirtual 135, 3) := by decide +kernel
theorem dX7_counter_26 : decode cX7_counter 26 = .ok (.getfield 192, 3) := by decide +kernel
theorem dX7_counter_29 : decode cX7_counter 29 = .ok (.iload_n 1, 1) := by decide +kernel
theorem dX7_counter_30 : decode cX7_counter 30 = .ok (.iconst 3, 1) := by decide +kernel
theorem dX7_counter_31 : decode cX7_counter 31 = .ok (.imul, 1) := by decide +kernel
theorem dX7_counter_32 : decode cX7_counter 32 = .ok (.iload_n 2, 1) := by decide +kernel
theorem dX7_counter_33 : decode cX7_counter 33 = .ok (.iadd, 1) := by decide +kernel
theorem dX7_counter_34 : decode cX7_counter 34 = .ok (.iconst 1, 1) := by decide +kernel
theorem dX7_counter_35 : decode cX7_counter 35 = .ok (.isub, 1) := by decide +kernel
theorem dX7_counter_36 : decode cX7_counter 36 = .ok (.iaload, 1) := by decide +kernel
theorem dX7_counter_37 : decode cX7_counter 37 = .ok (.ireturn, 1) := by decide +kernel
theorem dX7_entry_0 : decode cX7_entry 0 = .ok (.aload_n 0, 1) := by decide +kernel
theorem dX7_entry_1 : decode cX7_entry 1 = .ok (.getfield 44, 3) := by decide +kernel
theorem dX7_entry_4 : decode cX7_entry 4 = .ok (.getfield 79, 3) := by decide +kernel
theorem dX7_entry_7 : decode cX7_entry 7 = .ok (.bipush 12, 2) := by decide +kernel
theorem dX7_entry_9 : decode cX7_entry 9 = .ok (.if_icmp .ge 12, 3) := by decide +kernel
theorem dX7_entry_12 : decode cX7_entry 12 = .ok (.iload_n 1, 1) := by decide +kernel
theorem dX7_entry_13 : decode cX7_entry 13 = .ok (.iconst 1, 1) := by decide +kernel
theorem dX7_entry_14 : decode cX7_entry 14 = .ok (.iconst 3, 1) := by decide +kernel
theorem dX7_entry_15 : decode cX7_entry 15 = .ok (.invokestatic 67, 3) := by decide +kernel
theorem dX7_entry_18 : decode cX7_entry 18 = .ok (.ifCond .ne 5, 3) := by decide +kernel
theorem dX7_entry_21 : decode cX7_entry 21 = .ok (.iconst (-1), 1) := by decide +kernel
theorem dX7_entry_22 : decode cX7_entry 22 = .ok (.ireturn, 1) := by decide +kernel
theorem dX7_entry_23 : decode cX7_entry 23 = .ok (.iload_n 2, 1) := by decide +kernel
theorem dX7_entry_24 : decode cX7_entry 24 = .ok (.iconst 0, 1) := by decide +kernel
theorem dX7_entry_25 : decode cX7_entry 25 = .ok (.sipush 999, 3) := by decide +kernel
theorem dX7_entry_28 : decode cX7_entry 28 = .ok (.invokestatic 67, 3) := by decide +kernel
theorem dX7_entry_31 : decode cX7_entry 31 = .ok (.ifCond .eq 18, 3) := by decide +kernel
theorem dX7_entry_34 : decode cX7_entry 34 = .ok (.iload_n 3, 1) := by decide +kernel
theorem dX7_entry_35 : decode cX7_entry 35 = .ok (.invokestatic 94, 3) := by decide +kernel
theorem dX7_entry_38 : decode cX7_entry 38 = .ok (.ifCond .eq 11, 3) := by decide +kernel
theorem dX7_entry_41 : decode cX7_entry 41 = .ok (.iload 4, 2) := by decide +kernel
theorem dX7_entry_43 : decode cX7_entry 43 = .ok (.invokestatic 94, 3) := by decide +kernel
theorem dX7_entry_46 : decode cX7_entry 46 = .ok (.ifCond .ne 5, 3) := by decide +kernel
theorem dX7_entry_49 : decode cX7_entry 49 = .ok (.iconst (-1), 1) := by decide +kernel
theorem dX7_entry_50 : decode cX7_entry 50 = .ok (.ireturn, 1) := by decide +kernel
theorem dX7_entry_51 : decode cX7_entry 51 = .ok (.aload_n 0, 1) := by decide +kernel
theorem dX7_entry_52 : decode cX7_entry 52 = .ok (.getfield 44, 3) := by decide +kernel
theorem dX7_entry_55 : decode cX7_entry 55 = .ok (.getfield 79, 3) := by decide +kernel
theorem dX7_entry_58 : decode cX7_entry 58 = .ok (.istore 5, 2) := by decide +kernel
theorem dX7_entry_60 : decode cX7_entry 60 = .ok (.aload_n 0, 1) := by decide +kernel
theorem dX7_entry_61 : decode cX7_entry 61 = .ok (.getfield 44, 3) := by decide +kernel
theorem dX7_entry_64 : decode cX7_entry 64 = .ok (.getfield 195, 3) := by decide +kernel
theorem dX7_entry_67 : decode cX7_entry 67 = .ok (.iload 5, 2) := by decide +kernel
theorem dX7_entry_69 : decode cX7_entry 69 = .ok (.iload_n 1, 1) := by decide +kernel
theorem dX7_entry_70 : decode cX7_entry 70 = .ok (.iastore, 1) := by decide +kernel
theorem dX7_entry_71 : decode cX7_entry 71 = .ok (.aload_n 0, 1) := by decide +kernel
theorem dX7_entry_72 : decode cX7_entry 72 = .ok (.getfield 44, 3) := by decide +kernel
theorem dX7_entry_75 : decode cX7_entry 75 = .ok (.getfield 198, 3) := by decide +kernel
theorem dX7_entry_78 : decode cX7_entry 78 = .ok (.iload 5, 2) := by decide +kernel
theorem dX7_entry_80 : decode cX7_entry 80 = .ok (.iload_n 2, 1) := by decide +kernel
theorem dX7_entry_81 : decode cX7_entry 81 = .ok (.iastore, 1) := by decide +kernel
theorem dX7_entry_82 : decode cX7_entry 82 = .ok (.aload_n 0, 1) := by decide +kernel
theorem dX7_entry_83 : decode cX7_entry 83 = .ok (.getfield 44, 3) := by decide +kernel
theorem dX7_entry_86 : decode cX7_entry 86 = .ok (.getfield 201, 3) := by decide +kernel
theorem dX7_entry_89 : decode cX7_entry 89 = .ok (.iload 5, 2) := by decide +kernel
theorem dX7_entry_91 : decode cX7_entry 91 = .ok (.iload_n 3, 1) := by decide +kernel
theorem dX7_entry_92 : decode cX7_entry 92 = .ok (.iastore, 1) := by decide +kernel
theorem dX7_entry_93 : decode cX7_entry 93 = .ok (.aload_n 0, 1) := by decide +kernel
theorem dX7_entry_94 : decode cX7_entry 94 = .ok (.getfield 44, 3) := by decide +kernel
theorem dX7_entry_97 : decode cX7_entry 97 = .ok (.getfield 202, 3) := by decide +kernel
theorem dX7_entry_100 : decode cX7_entry 100 = .ok (.iload 5, 2) := by decide +kernel
theorem dX7_entry_102 : decode cX7_entry 102 = .ok (.iload 4, 2) := by decide +kernel
theorem dX7_entry_104 : decode cX7_entry 104 = .ok (.iastore, 1) := by decide +kernel
theorem dX7_entry_105 : decode cX7_entry 105 = .ok (.aload_n 0, 1) := by decide +kernel
theorem dX7_entry_106 : decode cX7_entry 106 = .ok (.getfield 44, 3) := by decide +kernel
theorem dX7_entry_109 : decode cX7_entry 109 = .ok (.iload 5, 2) := by decide +kernel
theorem dX7_entry_111 : decode cX7_entry 111 = .ok (.iconst 1, 1) := by decide +kernel
theorem dX7_entry_112 : decode cX7_entry 112 = .ok (.iadd, 1) := by decide +kernel
theorem dX7_entry_113 : decode cX7_entry 113 = .ok (.putfield 79, 3) := by decide +kernel
theorem dX7_entry_116 : decode cX7_entry 116 = .ok (.aload_n 0, 1) := by decide +kernel
theorem dX7_entry_117 : decode cX7_entry 117 = .ok (.iconst 1, 1) := by decide +kernel
theorem dX7_entry_118 : decode cX7_entry 118 = .ok (.putfield 61, 3) := by decide +kernel
theorem dX7_entry_121 : decode cX7_entry 121 = .ok (.iload 5, 2) := by decide +kernel
theorem dX7_entry_123 : decode cX7_entry 123 = .ok (.ireturn, 1) := by decide +kernel
theorem dX7_clear_0 : decode cX7_clear 0 = .ok (.aload_n 0, 1) := by decide +kernel
theorem dX7_clear_1 : decode cX7_clear 1 = .ok (.getfield 44, 3) := by decide +kernel
theorem dX7_clear_4 : decode cX7_clear 4 = .ok (.getfield 79, 3) := by decide +kernel
theorem dX7_clear_7 : decode cX7_clear 7 = .ok (.istore_n 1, 1) := by decide +kernel
theorem dX7_clear_8 : decode cX7_clear 8 = .ok (.aload_n 0, 1) := by decide +kernel
theorem dX7_clear_9 : decode cX7_clear 9 = .ok (.getfield 44, 3) := by decide +kernel
theorem dX7_clear_12 : decode cX7_clear 12 = .ok (.iconst 0, 1) := by decide +kernel
theorem dX7_clear_13 : decode cX7_clear 13 = .ok (.putfield 79, 3) := by decide +kernel
theorem dX7_clear_16 : decode cX7_clear 16 = .ok (.aload_n 0, 1) := by decide +kernel
theorem dX7_clear_17 : decode cX7_clear 17 = .ok (.iconst 1, 1) := by decide +kernel
theorem dX7_clear_18 : decode cX7_clear 18 = .ok (.putfield 61, 3) := by decide +kernel
theorem dX7_clear_21 : decode cX7_clear 21 = .ok (.iload_n 1, 1) := by decide +kernel
theorem dX7_clear_22 : decode cX7_clear 22 = .ok (.ireturn, 1) := by decide +kernel
theorem dX7_partner_0 : decode cX7_partner 0 = .ok (.iload_n 1, 1) := by decide +kernel
theorem dX7_partner_1 : decode cX7_partner 1 = .ok (.iconst 0, 1) := by decide +kernel
theorem dX7_partner_2 : decode cX7_partner 2 = .ok (.aload_n 0, 1) := by decide +kernel
theorem dX7_partner_3 : decode cX7_partner 3 = .ok (.getfield 44, 3) := by decide +kernel
theorem dX7_partner_6 : decode cX7_partner 6 = .ok (.getfield 79, 3) := by decide +kernel
theorem dX7_partner_9 : decode cX7_partner 9 = .ok (.iconst 1, 1) := by decide +kernel
theorem dX7_partner_10 : decode cX7_partner 10 = .ok (.isub, 1) := by decide +kernel
theorem dX7_partner_11 : decode cX7_partner 11 = .ok (.invokestatic 67, 3) := by decide +kernel
theorem dX7_partner_14 : decode cX7_partner 14 = .ok (.ifCond .ne 5, 3) := by decide +kernel
theorem dX7_partner_17 : decode cX7_partner 17 = .ok (.iconst (-1), 1) := by decide +kernel
theorem dX7_partner_18 : decode cX7_partner 18 = .ok (.ireturn, 1) := by decide +kernel
theorem dX7_partner_19 : decode cX7_partner 19 = .ok (.aload_n 0, 1) := by decide +kernel
theorem dX7_partner_20 : decode cX7_partner 20 = .ok (.invokevirtual 145, 3) := by decide +kernel
theorem dX7_partner_23 : decode cX7_partner 23 = .ok (.getfield 203, 3) := by decide +kernel
theorem dX7_partner_26 : decode cX7_partner 26 = .ok (.iload_n 1, 1) := by decide +kernel
theorem dX7_partner_27 : decode cX7_partner 27 = .ok (.iaload, 1) := by decide +kernel
theorem dX7_partner_28 : decode cX7_partner 28 = .ok (.ireturn, 1) := by decide +kernel
theorem dX7_span_0 : decode cX7_span 0 = .ok (.aload_n 0, 1) := by decide +kernel
theorem dX7_span_1 : decode cX7_span 1 = .ok (.getfield 27, 3) := by decide +kernel
theorem dX7_span_4 : decode cX7_span 4 = .ok (.iload_n 1, 1) := by decide +kernel
theorem dX7_span_5 : decode cX7_span 5 = .ok (.invokevirtual 83, 3) := by decide +kernel
theorem dX7_span_8 : decode cX7_span 8 = .ok (.ifCond .ne 5, 3) := by decide +kernel
theorem dX7_span_11 : decode cX7_span 11 = .ok (.iconst (-1), 1) := by decide +kernel
theorem dX7_span_12 : decode cX7_span 12 = .ok (.ireturn, 1) := by decide +kernel
theorem dX7_span_13 : decode cX7_span 13 = .ok (.aload_n 0, 1) := by decide +kernel
theorem dX7_span_14 : decode cX7_span 14 = .ok (.invokevirtual 150, 3) := by decide +kernel
theorem dX7_span_17 : decode cX7_span 17 = .ok (.getfield 211, 3) := by decide +kernel
theorem dX7_span_20 : decode cX7_span 20 = .ok (.iload_n 1, 1) := by decide +kernel
theorem dX7_span_21 : decode cX7_span 21 = .ok (.iaload, 1) := by decide +kernel
theorem dX7_span_22 : decode cX7_span 22 = .ok (.ireturn, 1) := by decide +kernel
theorem dX7_wrong_0 : decode cX7_wrong 0 = .ok (.aload_n 0, 1) := by decide +kernel
theorem dX7_wrong_1 : decode cX7_wrong 1 = .ok (.getfield 27, 3) := by decide +kernel
theorem dX7_wrong_4 : decode cX7_wrong 4 = .ok (.iload_n 1, 1) := by decide +kernel
theorem dX7_wrong_5 : decode cX7_wrong 5 = .ok (.invokevirtual 83, 3) := by decide +kernel
theorem dX7_wrong_8 : decode cX7_wrong 8 = .ok (.ifCond .ne 5, 3) := by decide +kernel
theorem dX7_wrong_11 : decode cX7_wrong 11 = .ok (.iconst (-1), 1) := by decide +kernel
theorem dX7_wrong_12 : decode cX7_wrong 12 = .ok (.ireturn, 1) := by decide +kernel
theorem dX7_wrong_13 : decode cX7_wrong 13 = .ok (.aload_n 0, 1) := by decide +kernel
theorem dX7_wrong_14 : decode cX7_wrong 14 = .ok (.invokevirtual 150, 3) := by decide +kernel
theorem dX7_wrong_17 : decode cX7_wrong 17 = .ok (.iload_n 1, 1) := by decide +kernel
theorem dX7_wrong_18 : decode cX7_wrong 18 = .ok (.invokevirtual 214, 3) := by decide +kernel
theorem dX7_wrong_21 : decode cX7_wrong 21 = .ok (.ifCond .eq 7, 3) := by decide +kernel
theorem dX7_wrong_24 : decode cX7_wrong 24 = .ok (.iconst 1, 1) := by decide +kernel
theorem dX7_wrong_25 : decode cX7_wrong 25 = .ok (.goto 4, 3) := by decide +kernel
theorem dX7_wrong_28 : decode cX7_wrong 28 = .ok (.iconst 0, 1) := by decide +kernel
theorem dX7_wrong_29 : decode cX7_wrong 29 = .ok (.ireturn, 1) := by decide +kernel
theorem dX7_allIsOld_0 : decode cX7_allIsOld 0 = .ok (.aload_n 0, 1) := by decide +kernel
theorem dX7_allIsOld_1 : decode cX7_allIsOld 1 = .ok (.iconst 1, 1) := by decide +kernel
theorem dX7_allIsOld_2 : decode cX7_allIsOld 2 = .ok (.putfield 57, 3) := by decide +kernel
theorem dX7_allIsOld_5 : decode cX7_allIsOld 5 = .ok (.aload_n 0, 1) := by decide +kernel
theorem dX7_allIsOld_6 : decode cX7_allIsOld 6 = .ok (.iconst 1, 1) := by decide +kernel
theorem dX7_allIsOld_7 : decode cX7_allIsOld 7 = .ok (.putfield 61, 3) := by decide +kernel
theorem dX7_allIsOld_10 : decode cX7_allIsOld 10 = .ok (.aload_n 0, 1) := by decide +kernel
theorem dX7_allIsOld_11 : decode cX7_allIsOld 11 = .ok (.iconst 1, 1) := by decide +kernel
theorem dX7_allIsOld_12 : decode cX7_allIsOld 12 = .ok (.putfield 64, 3) := by decide +kernel
theorem dX7_allIsOld_15 : decode cX7_allIsOld 15 = .ok (.return_, 1) := by decide +kernel
theorem dX7_freshTree_0 : decode cX7_freshTree 0 = .ok (.aload_n 0, 1) := by decide +kernel
theorem dX7_freshTree_1 : decode cX7_freshTree 1 = .ok (.getfield 57, 3) := by decide +kernel
theorem dX7_freshTree_4 : decode cX7_freshTree 4 = .ok (.ifCond .eq 20, 3) := by decide +kernel
theorem dX7_freshTree_7 : decode cX7_freshTree 7 = .ok (.aload_n 0, 1) := by decide +kernel
theorem dX7_freshTree_8 : decode cX7_freshTree 8 = .ok (.getfield 35, 3) := by decide +kernel
theorem dX7_freshTree_11 : decode cX7_freshTree 11 = .ok (.invokevirtual 217, 3) := by decide +kernel
theorem dX7_freshTree_14 : decode cX7_freshTree 14 = .ok (.aload_n 0, 1) := by decide +kernel
theorem dX7_freshTree_15 : decode cX7_freshTree 15 = .ok (.iconst 0, 1) := by decide +kernel
theorem dX7_freshTree_16 : decode cX7_freshTree 16 = .ok (.putfield 57, 3) := by decide +kernel
theorem dX7_freshTree_19 : decode cX7_freshTree 19 = .ok (.aload_n 0, 1) := by decide +kernel
theorem dX7_freshTree_20 : decode cX7_freshTree 20 = .ok (.iconst 1, 1) := by decide +kernel
theorem dX7_freshTree_21 : decode cX7_freshTree 21 = .ok (.putfield 61, 3) := by decide +kernel
theorem dX7_freshTree_24 : decode cX7_freshTree 24 = .ok (.aload_n 0, 1) := by decide +kernel
theorem dX7_freshTree_25 : decode cX7_freshTree 25 = .ok (.getfield 35, 3) := by decide +kernel
theorem dX7_freshTree_28 : decode cX7_freshTree 28 = .ok (.areturn, 1) := by decide +kernel
theorem dX7_freshListing_0 : decode cX7_freshListing 0 = .ok (.aload_n 0, 1) := by decide +kernel
theorem dX7_freshListing_1 : decode cX7_freshListing 1 = .ok (.invokevirtual 135, 3) := by decide +kernel
theorem dX7_freshListing_4 : decode cX7_freshListing 4 = .ok (.pop, 1) := by decide +kernel
theorem dX7_freshListing_5 : decode cX7_freshListing 5 = .ok (.aload_n 0, 1) := by decide +kernel
theorem dX7_freshListing_6 : decode cX7_freshListing 6 = .ok (.getfield 61, 3) := by decide +kernel
theorem dX7_freshListing_9 : decode cX7_freshListing 9 = .ok (.ifCond .eq 15, 3) := by decide +kernel
theorem dX7_freshListing_12 : decode cX7_freshListing 12 = .ok (.aload_n 0, 1) := by decide +kernel
theorem dX7_freshListing_13 : decode cX7_freshListing 13 = .ok (.getfield 44, 3) := by decide +kernel
theorem dX7_freshListing_16 : decode cX7_freshListing 16 = .ok (.invokevirtual 220, 3) := by decide +kernel
theorem dX7_freshListing_19 : decode cX7_freshListing 19 = .ok (.aload_n 0, 1) := by decide +kernel
theorem dX7_freshListing_20 : decode cX7_freshListing 20 = .ok (.iconst 0, 1) := by decide +kernel
theorem dX7_freshListing_21 : decode cX7_freshListing 21 = .ok (.putfield 61, 3) := by decide +kernel
theorem dX7_freshListing_24 : decode cX7_freshListing 24 = .ok (.aload_n 0, 1) := by decide +kernel
theorem dX7_freshListing_25 : decode cX7_freshListing 25 = .ok (.getfield 44, 3) := by decide +kernel
theorem dX7_freshListing_28 : decode cX7_freshListing 28 = .ok (.areturn, 1) := by decide +kernel
theorem dX7_freshShifts_0 : decode cX7_freshShifts 0 = .ok (.aload_n 0, 1) := by decide +kernel
theorem dX7_freshShifts_1 : decode cX7_freshShifts 1 = .ok (.getfield 64, 3) := by decide +kernel
theorem dX7_freshShifts_4 : decode cX7_freshShifts 4 = .ok (.ifCond .eq 15, 3) := by decide +kernel
theorem dX7_freshShifts_7 : decode cX7_freshShifts 7 = .ok (.aload_n 0, 1) := by decide +kernel
theorem dX7_freshShifts_8 : decode cX7_freshShifts 8 = .ok (.getfield 53, 3) := by decide +kernel
theorem dX7_freshShifts_11 : decode cX7_freshShifts 11 = .ok (.invokevirtual 223, 3) := by decide +kernel
theorem dX7_freshShifts_14 : decode cX7_freshShifts 14 = .ok (.aload_n 0, 1) := by decide +kernel
theorem dX7_freshShifts_15 : decode cX7_freshShifts 15 = .ok (.iconst 0, 1) := by decide +kernel
theorem dX7_freshShifts_16 : decode cX7_freshShifts 16 = .ok (.putfield 64, 3) := by decide +kernel
theorem dX7_freshShifts_19 : decode cX7_freshShifts 19 = .ok (.aload_n 0, 1) := by decide +kernel
theorem dX7_freshShifts_20 : decode cX7_freshShifts 20 = .ok (.getfield 53, 3) := by decide +kernel
theorem dX7_freshShifts_23 : decode cX7_freshShifts 23 = .ok (.areturn, 1) := by decide +kernel
theorem dX7_isWithin_0 : decode cX7_isWithin 0 = .ok (.iload_n 0, 1) := by decide +kernel
theorem dX7_isWithin_1 : decode cX7_isWithin 1 = .ok (.iload_n 1, 1) := by decide +kernel
theorem dX7_isWithin_2 : decode cX7_isWithin 2 = .ok (.if_icmp .lt 12, 3) := by decide +kernel
theorem dX7_isWithin_5 : decode cX7_isWithin 5 = .ok (.iload_n 0, 1) := by decide +kernel
theorem dX7_isWithin_6 : decode cX7_isWithin 6 = .ok (.iload_n 2, 1) := by decide +kernel
theorem dX7_isWithin_7 : decode cX7_isWithin 7 = .ok (.if_icmp .gt 7, 3) := by decide +kernel
theorem dX7_isWithin_10 : decode cX7_isWithin 10 = .ok (.iconst 1, 1) := by decide +kernel
theorem dX7_isWithin_11 : decode cX7_isWithin 11 = .ok (.goto 4, 3) := by decide +kernel
theorem dX7_isWithin_14 : decode cX7_isWithin 14 = .ok (.iconst 0, 1) := by decide +kernel
theorem dX7_isWithin_15 : decode cX7_isWithin 15 = .ok (.ireturn, 1) := by decide +kernel
theorem dX7_areWords_0 : decode cX7_areWords 0 = .ok (.iconst 0, 1) := by decide +kernel
theorem dX7_areWords_1 : decode cX7_areWords 1 = .ok (.istore_n 1, 1) := by decide +kernel
theorem dX7_areWords_2 : decode cX7_areWords 2 = .ok (.iload_n 1, 1) := by decide +kernel
theorem dX7_areWords_3 : decode cX7_areWords 3 = .ok (.bipush 32, 2) := by decide +kernel
theorem dX7_areWords_5 : decode cX7_areWords 5 = .ok (.if_icmp .ge 23, 3) := by decide +kernel
theorem dX7_areWords_8 : decode cX7_areWords 8 = .ok (.iload_n 0, 1) := by decide +kernel
theorem dX7_areWords_9 : decode cX7_areWords 9 = .ok (.iload_n 1, 1) := by decide +kernel
theorem dX7_areWords_10 : decode cX7_areWords 10 = .ok (.iushr, 1) := by decide +kernel
theorem dX7_areWords_11 : decode cX7_areWords 11 = .ok (.sipush 255, 3) := by decide +kernel
theorem dX7_areWords_14 : decode cX7_areWords 14 = .ok (.iand, 1) := by decide +kernel
