theorem dX0_init_0 : decode cX0_init 0 = .ok (.aload_n 0, 1) := by decide +kernel
theorem dX0_init_1 : decode cX0_init 1 = .ok (.invokespecial 5, 3) := by decide +kernel
theorem dX0_init_4 : decode cX0_init 4 = .ok (.aload_n 0, 1) := by decide +kernel
theorem dX0_init_5 : decode cX0_init 5 = .ok (.iconst 4, 1) := by decide +kernel
theorem dX0_init_6 : decode cX0_init 6 = .ok (.newarray .int, 2) := by decide +kernel
theorem dX0_init_8 : decode cX0_init 8 = .ok (.dup, 1) := by decide +kernel
theorem dX0_init_9 : decode cX0_init 9 = .ok (.iconst 0, 1) := by decide +kernel
theorem dX0_init_10 : decode cX0_init 10 = .ok (.iconst 1, 1) := by decide +kernel
theorem dX0_init_11 : decode cX0_init 11 = .ok (.iastore, 1) := by decide +kernel
theorem dX0_init_12 : decode cX0_init 12 = .ok (.dup, 1) := by decide +kernel
theorem dX0_init_13 : decode cX0_init 13 = .ok (.iconst 1, 1) := by decide +kernel
theorem dX0_init_14 : decode cX0_init 14 = .ok (.iconst 0, 1) := by decide +kernel
theorem dX0_init_15 : decode cX0_init 15 = .ok (.iastore, 1) := by decide +kernel
theorem dX0_init_16 : decode cX0_init 16 = .ok (.dup, 1) := by decide +kernel
theorem dX0_init_17 : decode cX0_init 17 = .ok (.iconst 2, 1) := by decide +kernel
theorem dX0_init_18 : decode cX0_init 18 = .ok (.iconst 0, 1) := by decide +kernel
theorem dX0_init_19 : decode cX0_init 19 = .ok (.iastore, 1) := by decide +kernel
theorem dX0_init_20 : decode cX0_init 20 = .ok (.dup, 1) := by decide +kernel
theorem dX0_init_21 : decode cX0_init 21 = .ok (.iconst 3, 1) := by decide +kernel
theorem dX0_init_22 : decode cX0_init 22 = .ok (.iconst 0, 1) := by decide +kernel
theorem dX0_init_23 : decode cX0_init 23 = .ok (.iastore, 1) := by decide +kernel
theorem dX0_init_24 : decode cX0_init 24 = .ok (.putfield 11, 3) := by decide +kernel
theorem dX0_init_27 : decode cX0_init 27 = .ok (.aload_n 0, 1) := by decide +kernel
theorem dX0_init_28 : decode cX0_init 28 = .ok (.aload_n 1, 1) := by decide +kernel
theorem dX0_init_29 : decode cX0_init 29 = .ok (.putfield 15, 3) := by decide +kernel
theorem dX0_init_32 : decode cX0_init 32 = .ok (.return_, 1) := by decide +kernel
theorem dX0_unpack_0 : decode cX0_unpack 0 = .ok (.aload_n 0, 1) := by decide +kernel
theorem dX0_unpack_1 : decode cX0_unpack 1 = .ok (.getfield 11, 3) := by decide +kernel
theorem dX0_unpack_4 : decode cX0_unpack 4 = .ok (.iconst 1, 1) := by decide +kernel
theorem dX0_unpack_5 : decode cX0_unpack 5 = .ok (.iload_n 1, 1) := by decide +kernel
theorem dX0_unpack_6 : decode cX0_unpack 6 = .ok (.sipush 196, 3) := by decide +kernel
theorem dX0_unpack_9 : decode cX0_unpack 9 = .ok (.idiv, 1) := by decide +kernel
theorem dX0_unpack_10 : decode cX0_unpack 10 = .ok (.iastore, 1) := by decide +kernel
theorem dX0_unpack_11 : decode cX0_unpack 11 = .ok (.aload_n 0, 1) := by decide +kernel
theorem dX0_unpack_12 : decode cX0_unpack 12 = .ok (.getfield 11, 3) := by decide +kernel
theorem dX0_unpack_15 : decode cX0_unpack 15 = .ok (.iconst 2, 1) := by decide +kernel
theorem dX0_unpack_16 : decode cX0_unpack 16 = .ok (.iload_n 1, 1) := by decide +kernel
theorem dX0_unpack_17 : decode cX0_unpack 17 = .ok (.bipush 14, 2) := by decide +kernel
theorem dX0_unpack_19 : decode cX0_unpack 19 = .ok (.idiv, 1) := by decide +kernel
theorem dX0_unpack_20 : decode cX0_unpack 20 = .ok (.bipush 14, 2) := by decide +kernel
theorem dX0_unpack_22 : decode cX0_unpack 22 = .ok (.irem, 1) := by decide +kernel
theorem dX0_unpack_23 : decode cX0_unpack 23 = .ok (.iastore, 1) := by decide +kernel
theorem dX0_unpack_24 : decode cX0_unpack 24 = .ok (.aload_n 0, 1) := by decide +kernel
theorem dX0_unpack_25 : decode cX0_unpack 25 = .ok (.getfield 11, 3) := by decide +kernel
theorem dX0_unpack_28 : decode cX0_unpack 28 = .ok (.iconst 3, 1) := by decide +kernel
theorem dX0_unpack_29 : decode cX0_unpack 29 = .ok (.iload_n 1, 1) := by decide +kernel
theorem dX0_unpack_30 : decode cX0_unpack 30 = .ok (.bipush 14, 2) := by decide +kernel
theorem dX0_unpack_32 : decode cX0_unpack 32 = .ok (.irem, 1) := by decide +kernel
theorem dX0_unpack_33 : decode cX0_unpack 33 = .ok (.iastore, 1) := by decide +kernel
theorem dX0_unpack_34 : decode cX0_unpack 34 = .ok (.return_, 1) := by decide +kernel
theorem dX0_pack_0 : decode cX0_pack 0 = .ok (.iconst 0, 1) := by decide +kernel
theorem dX0_pack_1 : decode cX0_pack 1 = .ok (.istore_n 2, 1) := by decide +kernel
theorem dX0_pack_2 : decode cX0_pack 2 = .ok (.iconst 1, 1) := by decide +kernel
theorem dX0_pack_3 : decode cX0_pack 3 = .ok (.istore_n 3, 1) := by decide +kernel
theorem dX0_pack_4 : decode cX0_pack 4 = .ok (.iload_n 3, 1) := by decide +kernel
theorem dX0_pack_5 : decode cX0_pack 5 = .ok (.iconst 3, 1) := by decide +kernel
theorem dX0_pack_6 : decode cX0_pack 6 = .ok (.if_icmp .gt 39, 3) := by decide +kernel
theorem dX0_pack_9 : decode cX0_pack 9 = .ok (.iload_n 2, 1) := by decide +kernel
theorem dX0_pack_10 : decode cX0_pack 10 = .ok (.bipush 14, 2) := by decide +kernel
theorem dX0_pack_12 : decode cX0_pack 12 = .ok (.imul, 1) := by decide +kernel
theorem dX0_pack_13 : decode cX0_pack 13 = .ok (.aload_n 0, 1) := by decide +kernel
theorem dX0_pack_14 : decode cX0_pack 14 = .ok (.getfield 11, 3) := by decide +kernel
theorem dX0_pack_17 : decode cX0_pack 17 = .ok (.iload_n 3, 1) := by decide +kernel
theorem dX0_pack_18 : decode cX0_pack 18 = .ok (.iaload, 1) := by decide +kernel
theorem dX0_pack_19 : decode cX0_pack 19 = .ok (.aload_n 1, 1) := by decide +kernel
theorem dX0_pack_20 : decode cX0_pack 20 = .ok (.iload_n 3, 1) := by decide +kernel
theorem dX0_pack_21 : decode cX0_pack 21 = .ok (.iaload, 1) := by decide +kernel
theorem dX0_pack_22 : decode cX0_pack 22 = .ok (.if_icmp .ge 12, 3) := by decide +kernel
theorem dX0_pack_25 : decode cX0_pack 25 = .ok (.aload_n 0, 1) := by decide +kernel
theorem dX0_pack_26 : decode cX0_pack 26 = .ok (.getfield 11, 3) := by decide +kernel
theorem dX0_pack_29 : decode cX0_pack 29 = .ok (.iload_n 3, 1) := by decide +kernel
theorem dX0_pack_30 : decode cX0_pack 30 = .ok (.iaload, 1) := by decide +kernel
theorem dX0_pack_31 : decode cX0_pack 31 = .ok (.goto 6, 3) := by decide +kernel
theorem dX0_pack_34 : decode cX0_pack 34 = .ok (.aload_n 1, 1) := by decide +kernel
theorem dX0_pack_35 : decode cX0_pack 35 = .ok (.iload_n 3, 1) := by decide +kernel
theorem dX0_pack_36 : decode cX0_pack 36 = .ok (.iaload, 1) := by decide +kernel
theorem dX0_pack_37 : decode cX0_pack 37 = .ok (.iadd, 1) := by decide +kernel
theorem dX0_pack_38 : decode cX0_pack 38 = .ok (.istore_n 2, 1) := by decide +kernel
theorem dX0_pack_39 : decode cX0_pack 39 = .ok (.iinc 3 1, 3) := by decide +kernel
theorem dX0_pack_42 : decode cX0_pack 42 = .ok (.goto (-38), 3) := by decide +kernel
theorem dX0_pack_45 : decode cX0_pack 45 = .ok (.iload_n 2, 1) := by decide +kernel
theorem dX0_pack_46 : decode cX0_pack 46 = .ok (.ireturn, 1) := by decide +kernel
theorem dX0_allowHead_0 : decode cX0_allowHead 0 = .ok (.aload_n 0, 1) := by decide +kernel
theorem dX0_allowHead_1 : decode cX0_allowHead 1 = .ok (.getfield 11, 3) := by decide +kernel
theorem dX0_allowHead_4 : decode cX0_allowHead 4 = .ok (.iload_n 2, 1) := by decide +kernel
theorem dX0_allowHead_5 : decode cX0_allowHead 5 = .ok (.iconst 1, 1) := by decide +kernel
theorem dX0_allowHead_6 : decode cX0_allowHead 6 = .ok (.isub, 1) := by decide +kernel
theorem dX0_allowHead_7 : decode cX0_allowHead 7 = .ok (.iaload, 1) := by decide +kernel
theorem dX0_allowHead_8 : decode cX0_allowHead 8 = .ok (.ifCond .ne 5, 3) := by decide +kernel
theorem dX0_allowHead_11 : decode cX0_allowHead 11 = .ok (.iconst 0, 1) := by decide +kernel
theorem dX0_allowHead_12 : decode cX0_allowHead 12 = .ok (.ireturn, 1) := by decide +kernel
theorem dX0_allowHead_13 : decode cX0_allowHead 13 = .ok (.aload_n 0, 1) := by decide +kernel
theorem dX0_allowHead_14 : decode cX0_allowHead 14 = .ok (.getfield 15, 3) := by decide +kernel
theorem dX0_allowHead_17 : decode cX0_allowHead 17 = .ok (.getfield 19, 3) := by decide +kernel
theorem dX0_allowHead_20 : decode cX0_allowHead 20 = .ok (.iload_n 1, 1) := by decide +kernel
theorem dX0_allowHead_21 : decode cX0_allowHead 21 = .ok (.iaload, 1) := by decide +kernel
theorem dX0_allowHead_22 : decode cX0_allowHead 22 = .ok (.istore_n 3, 1) := by decide +kernel
theorem dX0_allowHead_23 : decode cX0_allowHead 23 = .ok (.iload_n 3, 1) := by decide +kernel
theorem dX0_allowHead_24 : decode cX0_allowHead 24 = .ok (.ifCond .ne 5, 3) := by decide +kernel
theorem dX0_allowHead_27 : decode cX0_allowHead 27 = .ok (.iconst 1, 1) := by decide +kernel
theorem dX0_allowHead_28 : decode cX0_allowHead 28 = .ok (.ireturn, 1) := by decide +kernel
theorem dX0_allowHead_29 : decode cX0_allowHead 29 = .ok (.iload_n 3, 1) := by decide +kernel
theorem dX0_allowHead_30 : decode cX0_allowHead 30 = .ok (.iload_n 2, 1) := by decide +kernel
theorem dX0_allowHead_31 : decode cX0_allowHead 31 = .ok (.if_icmp .eq 5, 3) := by decide +kernel
theorem dX0_allowHead_34 : decode cX0_allowHead 34 = .ok (.iconst 0, 1) := by decide +kernel
theorem dX0_allowHead_35 : decode cX0_allowHead 35 = .ok (.ireturn, 1) := by decide +kernel
theorem dX0_allowHead_36 : decode cX0_allowHead 36 = .ok (.iconst 1, 1) := by decide +kernel
theorem dX0_allowHead_37 : decode cX0_allowHead 37 = .ok (.istore 4, 2) := by decide +kernel
theorem dX0_allowHead_39 : decode cX0_allowHead 39 = .ok (.iload 4, 2) := by decide +kernel
theorem dX0_allowHead_41 : decode cX0_allowHead 41 = .ok (.iload_n 2, 1) := by decide +kernel
theorem dX0_allowHead_42 : decode cX0_allowHead 42 = .ok (.if_icmp .ge 31, 3) := by decide +kernel
theorem dX0_allowHead_45 : decode cX0_allowHead 45 = .ok (.aload_n 0, 1) := by decide +kernel
theorem dX0_allowHead_46 : decode cX0_allowHead 46 = .ok (.getfield 15, 3) := by decide +kernel
theorem dX0_allowHead_49 : decode cX0_allowHead 49 = .ok (.iload_n 1, 1) := by decide +kernel
theorem dX0_allowHead_50 : decode cX0_allowHead 50 = .ok (.iload 4, 2) := by decide +kernel
theorem dX0_allowHead_52 : decode cX0_allowHead 52 = .ok (.invokevirtual 24, 3) := by decide +kernel
theorem dX0_allowHead_55 : decode cX0_allowHead 55 = .ok (.aload_n 0, 1) := by decide +kernel
theorem dX0_allowHead_56 : decode cX0_allowHead 56 = .ok (.getfield 11, 3) := by decide +kernel
theorem dX0_allowHead_59 : decode cX0_allowHead 59 = .ok (.iload 4, 2) := by decide +kernel
theorem dX0_allowHead_61 : decode cX0_allowHead 61 = .ok (.iaload, 1) := by decide +kernel
theorem dX0_allowHead_62 : decode cX0_allowHead 62 = .ok (.if_icmp .eq 5, 3) := by decide +kernel
theorem dX0_allowHead_65 : decode cX0_allowHead 65 = .ok (.iconst 0, 1) := by decide +kernel
theorem dX0_allowHead_66 : decode cX0_allowHead 66 = .ok (.ireturn, 1) := by decide +kernel
theorem dX0_allowHead_67 : decode cX0_allowHead 67 = .ok (.iinc 4 1, 3) := by decide +kernel
theorem dX0_allowHead_70 : decode cX0_allowHead 70 = .ok (.goto (-31), 3) := by decide +kernel
theorem dX0_allowHead_73 : decode cX0_allowHead 73 = .ok (.aload_n 0, 1) := by decide +kernel
theorem dX0_allowHead_74 : decode cX0_allowHead 74 = .ok (.getfield 15, 3) := by decide +kernel
theorem dX0_allowHead_77 : decode cX0_allowHead 77 = .ok (.iload_n 1, 1) := by decide +kernel
theorem dX0_allowHead_78 : decode cX0_allowHead 78 = .ok (.iload_n 2, 1) := by decide +kernel
theorem dX0_allowHead_79 : decode cX0_allowHead 79 = .ok (.invokevirtual 24, 3) := by decide +kernel
theorem dX0_allowHead_82 : decode cX0_allowHead 82 = .ok (.aload_n 0, 1) := by decide +kernel
theorem dX0_allowHead_83 : decode cX0_allowHead 83 = .ok (.getfield 11, 3) := by decide +kernel
theorem dX0_allowHead_86 : decode cX0_allowHead 86 = .ok (.iload_n 2, 1) := by decide +kernel
theorem dX0_allowHead_87 : decode cX0_allowHead 87 = .ok (.iaload, 1) := by decide +kernel
theorem dX0_allowHead_88 : decode cX0_allowHead 88 = .ok (.if_icmp .le 7, 3) := by decide +kernel
theorem dX0_allowHead_91 : decode cX0_allowHead 91 = .ok (.iconst 1, 1) := by decide +kernel
theorem dX0_allowHead_92 : decode cX0_allowHead 92 = .ok (.goto 4, 3) := by decide +kernel
theorem dX0_allowHead_95 : decode cX0_allowHead 95 = .ok (.iconst 0, 1) := by decide +kernel
theorem dX0_allowHead_96 : decode cX0_allowHead 96 = .ok (.ireturn, 1) := by decide +kernel
theorem dX0_passHead_0 : decode cX0_passHead 0 = .ok (.aload_n 0, 1) := by decide +kernel
theorem dX0_passHead_1 : decode cX0_passHead 1 = .ok (.getfield 11, 3) := by decide +kernel
theorem dX0_passHead_4 : decode cX0_passHead 4 = .ok (.iload_n 2, 1) := by decide +kernel
theorem dX0_passHead_5 : decode cX0_passHead 5 = .ok (.aload_n 0, 1) := by decide +kernel
theorem dX0_passHead_6 : decode cX0_passHead 6 = .ok (.getfield 15, 3) := by decide +kernel
theorem dX0_passHead_9 : decode cX0_passHead 9 = .ok (.getfield 19, 3) := by decide +kernel
theorem dX0_passHead_12 : decode cX0_passHead 12 = .ok (.iload_n 1, 1) := by decide +kernel
theorem dX0_passHead_13 : decode cX0_passHead 13 = .ok (.iaload, 1) := by decide +kernel
theorem dX0_passHead_14 : decode cX0_passHead 14 = .ok (.ifCond .ne 14, 3) := by decide +kernel
theorem dX0_passHead_17 : decode cX0_passHead 17 = .ok (.aload_n 0, 1) := by decide +kernel
theorem dX0_passHead_18 : decode cX0_passHead 18 = .ok (.getfield 11, 3) := by decide +kernel
theorem dX0_passHead_21 : decode cX0_passHead 21 = .ok (.iload_n 2, 1) := by decide +kernel
theorem dX0_passHead_22 : decode cX0_passHead 22 = .ok (.iaload, 1) := by decide +kernel
theorem dX0_passHead_23 : decode cX0_passHead 23 = .ok (.iconst 1, 1) := by decide +kernel
theorem dX0_passHead_24 : decode cX0_passHead 24 = .ok (.iadd, 1) := by decide +kernel
theorem dX0_passHead_25 : decode cX0_passHead 25 = .ok (.goto 12, 3) := by decide +kernel
theorem dX0_passHead_28 : decode cX0_passHead 28 = .ok (.aload_n 0, 1) := by decide +kernel
theorem dX0_passHead_29 : decode cX0_passHead 29 = .ok (.getfield 15, 3) := by decide +kernel
theorem dX0_passHead_32 : decode cX0_passHead 32 = .ok (.iload_n 1, 1) := by decide +kernel
theorem dX0_passHead_33 : decode cX0_passHead 33 = .ok (.iload_n 2, 1) := by decide +kernel
theorem dX0_passHead_34 : decode cX0_passHead 34 = .ok (.invokevirtual 24, 3) := by decide +kernel
theorem dX0_passHead_37 : decode cX0_passHead 37 = .ok (.iastore, 1) := by decide +kernel
theorem dX0_passHead_38 : decode cX0_passHead 38 = .ok (.iload_n 2, 1) := by decide +kernel
theorem dX0_passHead_39 : decode cX0_passHead 39 = .ok (.iconst 1, 1) := by decide +kernel
theorem dX0_passHead_40 : decode cX0_passHead 40 = .ok (.iadd, 1) := by decide +kernel
theorem dX0_passHead_41 : decode cX0_passHead 41 = .ok (.istore_n 3, 1) := by decide +kernel
theorem dX0_passHead_42 : decode cX0_passHead 42 = .ok (.iload_n 3, 1) := by decide +kernel
theorem dX0_passHead_43 : decode cX0_passHead 43 = .ok (.iconst 3, 1) := by decide +kernel
theorem dX0_passHead_44 : decode cX0_passHead 44 = .ok (.if_icmp .gt 16, 3) := by decide +kernel
theorem dX0_passHead_47 : decode cX0_passHead 47 = .ok (.aload_n 0, 1) := by decide +kernel
theorem dX0_passHead_48 : decode cX0_passHead 48 = .ok (.getfield 11, 3) := by decide +kernel
theorem dX0_passHead_51 : decode cX0_passHead 51 = .ok (.iload_n 3, 1) := by decide +kernel
theorem dX0_passHead_52 : decode cX0_passHead 52 = .ok (.iconst 0, 1) := by decide +kernel
theorem dX0_passHead_53 : decode cX0_passHead 53 = .ok (.iastore, 1) := by decide +kernel
theorem dX0_passHead_54 : decode cX0_passHead 54 = .ok (.iinc 3 1, 3) := by decide +kernel
theorem dX0_passHead_57 : decode cX0_passHead 57 = .ok (.goto (-15), 3) := by decide +kernel
theorem dX0_passHead_60 : decode cX0_passHead 60 = .ok (.return_, 1) := by decide +kernel
theorem dX1_init_0 : decode cX1_init 0 = .ok (.aload_n 0, 1) := by decide +kernel
theorem dX1_init_1 : decode cX1_init 1 = .ok (.invokespecial 3, 3) := by decide +kernel
theorem dX1_init_4 : decode cX1_init 4 = .ok (.aload_n 0, 1) := by decide +kernel
theorem dX1_init_5 : decode cX1_init 5 = .ok (.bipush 20, 2) := by decide +kernel
theorem dX1_init_7 : decode cX1_init 7 = .ok (.newarray .int, 2) := by decide +kernel
theorem dX1_init_9 : decode cX1_init 9 = .ok (.putfield 9, 3) := by decide +kernel
theorem dX1_init_12 : decode cX1_init 12 = .ok (.aload_n 0, 1) := by decide +kernel
theorem dX1_init_13 : decode cX1_init 13 = .ok (.bipush 20, 2) := by decide +kernel
theorem dX1_init_15 : decode cX1_init 15 = .ok (.newarray .int, 2) := by decide +kernel
theorem dX1_init_17 : decode cX1_init 17 = .ok (.putfield 15, 3) := by decide +kernel
theorem dX1_init_20 : decode cX1_init 20 = .ok (.aload_n 0, 1) := by decide +kernel
theorem dX1_init_21 : decode cX1_init 21 = .ok (.bipush 20, 2) := by decide +kernel
theorem dX1_init_23 : decode cX1_init 23 = .ok (.newarray .int, 2) := by decide +kernel
theorem dX1_init_25 : decode cX1_init 25 = .ok (.putfield 18, 3) := by decide +kernel
theorem dX1_init_28 : decode cX1_init 28 = .ok (.aload_n 0, 1) := by decide +kernel
theorem dX1_init_29 : decode cX1_init 29 = .ok (.bipush 20, 2) := by decide +kernel
theorem dX1_init_31 : decode cX1_init 31 = .ok (.newarray .boolean, 2) := by decide +kernel
theorem dX1_init_33 : decode cX1_init 33 = .ok (.putfield 21, 3) := by decide +kernel
theorem dX1_init_36 : decode cX1_init 36 = .ok (.aload_n 0, 1) := by decide +kernel
theorem dX1_init_37 : decode cX1_init 37 = .ok (.bipush 20, 2) := by decide +kernel
theorem dX1_init_39 : decode cX1_init 39 = .ok (.newarray .int, 2) := by decide +kernel
theorem dX1_init_41 : decode cX1_init 41 = .ok (.putfield 25, 3) := by decide +kernel
theorem dX1_init_44 : decode cX1_init 44 = .ok (.aload_n 0, 1) := by decide +kernel
theorem dX1_init_45 : decode cX1_init 45 = .ok (.bipush 20, 2) := by decide +kernel
theorem dX1_init_47 : decode cX1_init 47 = .ok (.newarray .int, 2) := by decide +kernel
theorem dX1_init_49 : decode cX1_init 49 = .ok (.putfield 28, 3) := by decide +kernel
theorem dX1_init_52 : decode cX1_init 52 = .ok (.aload_n 0, 1) := by decide +kernel
theorem dX1_init_53 : decode cX1_init 53 = .ok (.bipush 20, 2) := by decide +kernel
theorem dX1_init_55 : decode cX1_init 55 = .ok (.newarray .int, 2) := by decide +kernel
theorem dX1_init_57 : decode cX1_init 57 = .ok (.putfield 31, 3) := by decide +kernel
theorem dX1_init_60 : decode cX1_init 60 = .ok (.aload_n 0, 1) := by decide +kernel
theorem dX1_init_61 : decode cX1_init 61 = .ok (.bipush 60, 2) := by decide +kernel
theorem dX1_init_63 : decode cX1_init 63 = .ok (.newarray .int, 2) := by decide +kernel
theorem dX1_init_65 : decode cX1_init 65 = .ok (.putfield 34, 3) := by decide +kernel
theorem dX1_init_68 : decode cX1_init 68 = .ok (.aload_n 0, 1) := by decide +kernel
theorem dX1_init_69 : decode cX1_init 69 = .ok (.iconst 0, 1) := by decide +kernel
theorem dX1_init_70 : decode cX1_init 70 = .ok (.putfield 37, 3) := by decide +kernel
theorem dX1_init_73 : decode cX1_init 73 = .ok (.return_, 1) := by decide +kernel
theorem dX1_has_0 : decode cX1_has 0 = .ok (.iload_n 1, 1) := by decide +kernel
theorem dX1_has_1 : decode cX1_has 1 = .ok (.iconst 0, 1) := by decide +kernel
theorem dX1_has_2 : decode cX1_has 2 = .ok (.aload_n 0, 1) := by decide +kernel
theorem dX1_has_3 : decode cX1_has 3 = .ok (.getfield 37, 3) := by decide +kernel
theorem dX1_has_6 : decode cX1_has 6 = .ok (.iconst 1, 1) := by decide +kernel
theorem dX1_has_7 : decode cX1_has 7 = .ok (.isub, 1) := by decide +kernel
theorem dX1_has_8 : decode cX1_has 8 = .ok (.invokestatic 41, 3) := by decide +kernel
theorem dX1_has_11 : decode cX1_has 11 = .ok (.ireturn, 1) := by decide +kernel
theorem dX1_canFollow_0 : decode cX1_canFollow 0 = .ok (.aload_n 0, 1) := by decide +kernel
theorem dX1_canFollow_1 : decode cX1_canFollow 1 = .ok (.getfield 37, 3) := by decide +kernel
theorem dX1_canFollow_4 : decode cX1_canFollow 4 = .ok (.bipush 20, 2) := by decide +kernel
theorem dX1_canFollow_6 : decode cX1_canFollow 6 = .ok (.if_icmp .lt 5, 3) := by decide +kernel
theorem dX1_canFollow_9 : decode cX1_canFollow 9 = .ok (.iconst 0, 1) := by decide +kernel
theorem dX1_canFollow_10 : decode cX1_canFollow 10 = .ok (.ireturn, 1) := by decide +kernel
theorem dX1_canFollow_11 : decode cX1_canFollow 11 = .ok (.aload_n 0, 1) := by decide +kernel
theorem dX1_canFollow_12 : decode cX1_canFollow 12 = .ok (.getfield 37, 3) := by decide +kernel
theorem dX1_canFollow_15 : decode cX1_canFollow 15 = .ok (.ifCond .eq 18, 3) := by decide +kernel
theorem dX1_canFollow_18 : decode cX1_canFollow 18 = .ok (.iload_n 1, 1) := by decide +kernel
theorem dX1_canFollow_19 : decode cX1_canFollow 19 = .ok (.aload_n 0, 1) := by decide +kernel
theorem dX1_canFollow_20 : decode cX1_canFollow 20 = .ok (.getfield 9, 3) := by decide +kernel
theorem dX1_canFollow_23 : decode cX1_canFollow 23 = .ok (.aload_n 0, 1) := by decide +kernel
theorem dX1_canFollow_24 : decode cX1_canFollow 24 = .ok (.getfield 37, 3) := by decide +kernel
theorem dX1_canFollow_27 : decode cX1_canFollow 27 = .ok (.iconst 1, 1) := by decide +kernel
theorem dX1_canFollow_28 : decode cX1_canFollow 28 = .ok (.isub, 1) := by decide +kernel
theorem dX1_canFollow_29 : decode cX1_canFollow 29 = .ok (.iaload, 1) := by decide +kernel
theorem dX1_canFollow_30 : decode cX1_canFollow 30 = .ok (.if_icmp .lt 7, 3) := by decide +kernel
theorem dX1_canFollow_33 : decode cX1_canFollow 33 = .ok (.iconst 1, 1) := by decide +kernel
theorem dX1_canFollow_34 : decode cX1_canFollow 34 = .ok (.goto 4, 3) := by decide +kernel
theorem dX1_canFollow_37 : decode cX1_canFollow 37 = .ok (.iconst 0, 1) := by decide +kernel
theorem dX1_canFollow_38 : decode cX1_canFollow 38 = .ok (.ireturn, 1) := by decide +kernel
theorem dX1_putSizeAndNumbers_0 : decode cX1_putSizeAndNumbers 0 = .ok (.aload_n 0, 1) := by decide +kernel
theorem dX1_putSizeAndNumbers_1 : decode cX1_putSizeAndNumbers 1 = .ok (.getfield 15, 3) := by decide +kernel
theorem dX1_putSizeAndNumbers_4 : decode cX1_putSizeAndNumbers 4 = .ok (.iload_n 1, 1) := by decide +kernel
theorem dX1_putSizeAndNumbers_5 : decode cX1_putSizeAndNumbers 5 = .ok (.iload_n 2, 1) := by decide +kernel
theorem dX1_putSizeAndNumbers_6 : decode cX1_putSizeAndNumbers 6 = .ok (.iastore, 1) := by decide +kernel
theorem dX1_putSizeAndNumbers_7 : decode cX1_putSizeAndNumbers 7 = .ok (.aload_n 0, 1) := by decide +kernel
theorem dX1_putSizeAndNumbers_8 : decode cX1_putSizeAndNumbers 8 = .ok (.getfield 31, 3) := by decide +kernel
theorem dX1_putSizeAndNumbers_11 : decode cX1_putSizeAndNumbers 11 = .ok (.iload_n 1, 1) := by decide +kernel
theorem dX1_putSizeAndNumbers_12 : decode cX1_putSizeAndNumbers 12 = .ok (.iload_n 3, 1) := by decide +kernel
theorem dX1_putSizeAndNumbers_13 : decode cX1_putSizeAndNumbers 13 = .ok (.invokestatic 45, 3) := by decide +kernel
theorem dX1_putSizeAndNumbers_16 : decode cX1_putSizeAndNumbers 16 = .ok (.iastore, 1) := by decide +kernel
theorem dX1_putSizeAndNumbers_17 : decode cX1_putSizeAndNumbers 17 = .ok (.iload_n 3, 1) := by decide +kernel
theorem dX1_putSizeAndNumbers_18 : decode cX1_putSizeAndNumbers 18 = .ok (.istore 4, 2) := by decide +kernel
theorem dX1_putSizeAndNumbers_20 : decode cX1_putSizeAndNumbers 20 = .ok (.iconst 3, 1) := by decide +kernel
theorem dX1_putSizeAndNumbers_21 : decode cX1_putSizeAndNumbers 21 = .ok (.istore 5, 2) := by decide +kernel
theorem dX1_putSizeAndNumbers_23 : decode cX1_putSizeAndNumbers 23 = .ok (.iload 5, 2) := by decide +kernel
theorem dX1_putSizeAndNumbers_25 : decode cX1_putSizeAndNumbers 25 = .ok (.iconst 1, 1) := by decide +kernel
theorem dX1_putSizeAndNumbers_26 : decode cX1_putSizeAndNumbers 26 = .ok (.if_icmp .lt 71, 3) := by decide +kernel
theorem dX1_putSizeAndNumbers_29 : decode cX1_putSizeAndNumbers 29 = .ok (.iload 5, 2) := by decide +kernel
theorem dX1_putSizeAndNumbers_31 : decode cX1_putSizeAndNumbers 31 = .ok (.aload_n 0, 1) := by decide +kernel
theorem dX1_putSizeAndNumbers_32 : decode cX1_putSizeAndNumbers 32 = .ok (.getfield 31, 3) := by decide +kernel
theorem dX1_putSizeAndNumbers_35 : decode cX1_putSizeAndNumbers 35 = .ok (.iload_n 1, 1) := by decide +kernel
theorem dX1_putSizeAndNumbers_36 : decode cX1_putSizeAndNumbers 36 = .ok (.iaload, 1) := by decide +kernel
theorem dX1_putSizeAndNumbers_37 : decode cX1_putSizeAndNumbers 37 = .ok (.if_icmp .gt 7, 3) := by decide +kernel
theorem dX1_putSizeAndNumbers_40 : decode cX1_putSizeAndNumbers 40 = .ok (.iconst 1, 1) := by decide +kernel
theorem dX1_putSizeAndNumbers_41 : decode cX1_putSizeAndNumbers 41 = .ok (.goto 4, 3) := by decide +kernel
theorem dX1_putSizeAndNumbers_44 : decode cX1_putSizeAndNumbers 44 = .ok (.iconst 0, 1) := by decide +kernel
theorem dX1_putSizeAndNumbers_45 : decode cX1_putSizeAndNumbers 45 = .ok (.istore 6, 2) := by decide +kernel
theorem dX1_putSizeAndNumbers_47 : decode cX1_putSizeAndNumbers 47 = .ok (.aload_n 0, 1) := by decide +kernel
theorem dX1_putSizeAndNumbers_48 : decode cX1_putSizeAndNumbers 48 = .ok (.getfield 34, 3) := by decide +kernel
theorem dX1_putSizeAndNumbers_51 : decode cX1_putSizeAndNumbers 51 = .ok (.iload_n 1, 1) := by decide +kernel
theorem dX1_putSizeAndNumbers_52 : decode cX1_putSizeAndNumbers 52 = .ok (.iconst 3, 1) := by decide +kernel
theorem dX1_putSizeAndNumbers_53 : decode cX1_putSizeAndNumbers 53 = .ok (.imul, 1) := by decide +kernel
theorem dX1_putSizeAndNumbers_54 : decode cX1_putSizeAndNumbers 54 = .ok (.iload 5, 2) := by decide +kernel
theorem dX1_putSizeAndNumbers_56 : decode cX1_putSizeAndNumbers 56 = .ok (.iadd, 1) := by decide +kernel
theorem dX1_putSizeAndNumbers_57 : decode cX1_putSizeAndNumbers 57 = .ok (.iconst 1, 1) := by decide +kernel
theorem dX1_putSizeAndNumbers_58 : decode cX1_putSizeAndNumbers 58 = .ok (.isub, 1) := by decide +kernel
theorem dX1_putSizeAndNumbers_59 : decode cX1_putSizeAndNumbers 59 = .ok (.iload 6, 2) := by decide +kernel
theorem dX1_putSizeAndNumbers_61 : decode cX1_putSizeAndNumbers 61 = .ok (.ifCond .eq 11, 3) := by decide +kernel
theorem dX1_putSizeAndNumbers_64 : decode cX1_putSizeAndNumbers 64 = .ok (.iload 4, 2) := by decide +kernel
theorem dX1_putSizeAndNumbers_66 : decode cX1_putSizeAndNumbers 66 = .ok (.bipush 100, 2) := by decide +kernel
theorem dX1_putSizeAndNumbers_68 : decode cX1_putSizeAndNumbers 68 = .ok (.irem, 1) := by decide +kernel
theorem dX1_putSizeAndNumbers_69 : decode cX1_putSizeAndNumbers 69 = .ok (.goto 4, 3) := by decide +kernel
theorem dX1_putSizeAndNumbers_72 : decode cX1_putSizeAndNumbers 72 = .ok (.iconst 0, 1) := by decide +kernel
theorem dX1_putSizeAndNumbers_73 : decode cX1_putSizeAndNumbers 73 = .ok (.iastore, 1) := by decide +kernel
theorem dX1_putSizeAndNumbers_74 : decode cX1_putSizeAndNumbers 74 = .ok (.iload 6, 2) := by decide +kernel
theorem dX1_putSizeAndNumbers_76 : decode cX1_putSizeAndNumbers 76 = .ok (.ifCond .eq 11, 3) := by decide +kernel
theorem dX1_putSizeAndNumbers_79 : decode cX1_putSizeAndNumbers 79 = .ok (.iload 4, 2) := by decide +kernel
theorem dX1_putSizeAndNumbers_81 : decode cX1_putSizeAndNumbers 81 = .ok (.bipush 100, 2) := by decide +kernel
theorem dX1_putSizeAndNumbers_83 : decode cX1_putSizeAndNumbers 83 = .ok (.idiv, 1) := by decide +kernel
theorem dX1_putSizeAndNumbers_84 : decode cX1_putSizeAndNumbers 84 = .ok (.goto 5, 3) := by decide +kernel
theorem dX1_putSizeAndNumbers_87 : decode cX1_putSizeAndNumbers 87 = .ok (.iload 4, 2) := by decide +kernel
theorem dX1_putSizeAndNumbers_89 : decode cX1_putSizeAndNumbers 89 = .ok (.istore 4, 2) := by decide +kernel
theorem dX1_putSizeAndNumbers_91 : decode cX1_putSizeAndNumbers 91 = .ok (.iinc 5 (-1), 3) := by decide +kernel
theorem dX1_putSizeAndNumbers_94 : decode cX1_putSizeAndNumbers 94 = .ok (.goto (-71), 3) := by decide +kernel
theorem dX1_putSizeAndNumbers_97 : decode cX1_putSizeAndNumbers 97 = .ok (.return_, 1) := by decide +kernel
theorem dX1_partAt_0 : decode cX1_partAt 0 = .ok (.aload_n 0, 1) := by decide +kernel
theorem dX1_partAt_1 : decode cX1_partAt 1 = .ok (.getfield 34, 3) := by decide +kernel
theorem dX1_partAt_4 : decode cX1_partAt 4 = .ok (.iload_n 1, 1) := by decide +kernel
theorem dX1_partAt_5 : decode cX1_partAt 5 = .ok (.iconst 3, 1) := by decide +kernel
theorem dX1_partAt_6 : decode cX1_partAt 6 = .ok (.imul, 1) := by decide +kernel
theorem dX1_partAt_7 : decode cX1_partAt 7 = .ok (.iload_n 2, 1) := by decide +kernel
theorem dX1_partAt_8 : decode cX1_partAt 8 = .ok (.iadd, 1) := by decide +kernel
theorem dX1_partAt_9 : decode cX1_partAt 9 = .ok (.iconst 1, 1) := by decide +kernel
theorem dX1_partAt_10 : decode cX1_partAt 10 = .ok (.isub, 1) := by decide +kernel
theorem dX1_partAt_11 : decode cX1_partAt 11 = .ok (.iaload, 1) := by decide +kernel
theorem dX1_partAt_12 : decode cX1_partAt 12 = .ok (.ireturn, 1) := by decide +kernel
theorem dX1_look_0 : decode cX1_look 0 = .ok (.aload_n 0, 1) := by decide +kernel
theorem dX1_look_1 : decode cX1_look 1 = .ok (.getfield 15, 3) := by decide +kernel
theorem dX1_look_4 : decode cX1_look 4 = .ok (.iload_n 1, 1) := by decide +kernel
theorem dX1_look_5 : decode cX1_look 5 = .ok (.iaload, 1) := by decide +kernel
theorem dX1_look_6 : decode cX1_look 6 = .ok (.aload_n 0, 1) := by decide +kernel
theorem dX1_look_7 : decode cX1_look 7 = .ok (.getfield 18, 3) := by decide +kernel
theorem dX1_look_10 : decode cX1_look 10 = .ok (.iload_n 1, 1) := by decide +kernel
theorem dX1_look_11 : decode cX1_look 11 = .ok (.iaload, 1) := by decide +kernel
theorem dX1_look_12 : decode cX1_look 12 = .ok (.iadd, 1) := by decide +kernel
theorem dX1_look_13 : decode cX1_look 13 = .ok (.aload_n 0, 1) := by decide +kernel
theorem dX1_look_14 : decode cX1_look 14 = .ok (.getfield 21, 3) := by decide +kernel
theorem dX1_look_17 : decode cX1_look 17 = .ok (.iload_n 1, 1) := by decide +kernel
theorem dX1_look_18 : decode cX1_look 18 = .ok (.baload, 1) := by decide +kernel
theorem dX1_look_19 : decode cX1_look 19 = .ok (.ifCond .eq 7, 3) := by decide +kernel
theorem dX1_look_22 : decode cX1_look 22 = .ok (.iconst 3, 1) := by decide +kernel
theorem dX1_look_23 : decode cX1_look 23 = .ok (.goto 4, 3) := by decide +kernel
theorem dX1_look_26 : decode cX1_look 26 = .ok (.iconst 0, 1) := by decide +kernel
theorem dX1_look_27 : decode cX1_look 27 = .ok (.iadd, 1) := by decide +kernel
theorem dX1_look_28 : decode cX1_look 28 = .ok (.ireturn, 1) := by decide +kernel
theorem dX1_isRunning_0 : decode cX1_isRunning 0 = .ok (.aload_n 0, 1) := by decide +kernel
theorem dX1_isRunning_1 : decode cX1_isRunning 1 = .ok (.getfield 25, 3) := by decide +kernel
theorem dX1_isRunning_4 : decode cX1_isRunning 4 = .ok (.iload_n 1, 1) := by decide +kernel
theorem dX1_isRunning_5 : decode cX1_isRunning 5 = .ok (.iaload, 1) := by decide +kernel
theorem dX1_isRunning_6 : decode cX1_isRunning 6 = .ok (.ifCond .ne 14, 3) := by decide +kernel
theorem dX1_isRunning_9 : decode cX1_isRunning 9 = .ok (.aload_n 0, 1) := by decide +kernel
theorem dX1_isRunning_10 : decode cX1_isRunning 10 = .ok (.getfield 28, 3) := by decide +kernel
theorem dX1_isRunning_13 : decode cX1_isRunning 13 = .ok (.iload_n 1, 1) := by decide +kernel
theorem dX1_isRunning_14 : decode cX1_isRunning 14 = .ok (.iaload, 1) := by decide +kernel
theorem dX1_isRunning_15 : decode cX1_isRunning 15 = .ok (.ifCond .ne 5, 3) := by decide +kernel
theorem dX1_isRunning_18 : decode cX1_isRunning 18 = .ok (.iconst 0, 1) := by decide +kernel
theorem dX1_isRunning_19 : decode cX1_isRunning 19 = .ok (.ireturn, 1) := by decide +kernel
theorem dX1_isRunning_20 : decode cX1_isRunning 20 = .ok (.iconst 0, 1) := by decide +kernel
theorem dX1_isRunning_21 : decode cX1_isRunning 21 = .ok (.istore_n 3, 1) := by decide +kernel
theorem dX1_isRunning_22 : decode cX1_isRunning 22 = .ok (.iconst (-1), 1) := by decide +kernel
theorem dX1_isRunning_23 : decode cX1_isRunning 23 = .ok (.istore 4, 2) := by decide +kernel
theorem dX1_isRunning_25 : decode cX1_isRunning 25 = .ok (.iconst 0, 1) := by decide +kernel
theorem dX1_isRunning_26 : decode cX1_isRunning 26 = .ok (.istore 5, 2) := by decide +kernel
theorem dX1_isRunning_28 : decode cX1_isRunning 28 = .ok (.iload 5, 2) := by decide +kernel
theorem dX1_isRunning_30 : decode cX1_isRunning 30 = .ok (.aload_n 0, 1) := by decide +kernel
theorem dX1_isRunning_31 : decode cX1_isRunning 31 = .ok (.getfield 37, 3) := by decide +kernel
theorem dX1_isRunning_34 : decode cX1_isRunning 34 = .ok (.if_icmp .ge 43, 3) := by decide +kernel
theorem dX1_isRunning_37 : decode cX1_isRunning 37 = .ok (.aload_n 0, 1) := by decide +kernel
theorem dX1_isRunning_38 : decode cX1_isRunning 38 = .ok (.iload_n 1, 1) := by decide +kernel
theorem dX1_isRunning_39 : decode cX1_isRunning 39 = .ok (.iload 5, 2) := by decide +kernel
theorem dX1_isRunning_41 : decode cX1_isRunning 41 = .ok (.invokevirtual 49, 3) := by decide +kernel
theorem dX1_isRunning_44 : decode cX1_isRunning 44 = .ok (.ifCond .eq 27, 3) := by decide +kernel
theorem dX1_isRunning_47 : decode cX1_isRunning 47 = .ok (.aload_n 0, 1) := by decide +kernel
theorem dX1_isRunning_48 : decode cX1_isRunning 48 = .ok (.getfield 9, 3) := by decide +kernel
theorem dX1_isRunning_51 : decode cX1_isRunning 51 = .ok (.iload 5, 2) := by decide +kernel
theorem dX1_isRunning_53 : decode cX1_isRunning 53 = .ok (.iaload, 1) := by decide +kernel
theorem dX1_isRunning_54 : decode cX1_isRunning 54 = .ok (.iload 4, 2) := by decide +kernel
theorem dX1_isRunning_56 : decode cX1_isRunning 56 = .ok (.if_icmp .eq 15, 3) := by decide +kernel
theorem dX1_isRunning_59 : decode cX1_isRunning 59 = .ok (.aload_n 0, 1) := by decide +kernel
theorem dX1_isRunning_60 : decode cX1_isRunning 60 = .ok (.getfield 9, 3) := by decide +kernel
theorem dX1_isRunning_63 : decode cX1_isRunning 63 = .ok (.iload 5, 2) := by decide +kernel
theorem dX1_isRunning_65 : decode cX1_isRunning 65 = .ok (.iaload, 1) := by decide +kernel
theorem dX1_isRunning_66 : decode cX1_isRunning 66 = .ok (.istore 4, 2) := by decide +kernel
theorem dX1_isRunning_68 : decode cX1_isRunning 68 = .ok (.iinc 3 1, 3) := by decide +kernel
theorem dX1_isRunning_71 : decode cX1_isRunning 71 = .ok (.iinc 5 1, 3) := by decide +kernel
theorem dX1_isRunning_74 : decode cX1_isRunning 74 = .ok (.goto (-46), 3) := by decide +kernel
theorem dX1_isRunning_77 : decode cX1_isRunning 77 = .ok (.iload_n 3, 1) := by decide +kernel
theorem dX1_isRunning_78 : decode cX1_isRunning 78 = .ok (.iload_n 2, 1) := by decide +kernel
theorem dX1_isRunning_79 : decode cX1_isRunning 79 = .ok (.if_icmp .lt 7, 3) := by decide +kernel
theorem dX1_isRunning_82 : decode cX1_isRunning 82 = .ok (.iconst 1, 1) := by decide +kernel
theorem dX1_isRunning_83 : decode cX1_isRunning 83 = .ok (.goto 4, 3) := by decide +kernel
theorem dX1_isRunning_86 : decode cX1_isRunning 86 = .ok (.iconst 0, 1) := by decide +kernel
theorem dX1_isRunning_87 : decode cX1_isRunning 87 = .ok (.ireturn, 1) := by decide +kernel
theorem dX1_areAlike_0 : decode cX1_areAlike 0 = .ok (.aload_n 0, 1) := by decide +kernel
theorem dX1_areAlike_1 : decode cX1_areAlike 1 = .ok (.getfield 15, 3) := by decide +kernel
theorem dX1_areAlike_4 : decode cX1_areAlike 4 = .ok (.iload_n 1, 1) := by decide +kernel
theorem dX1_areAlike_5 : decode cX1_areAlike 5 = .ok (.iaload, 1) := by decide +kernel
theorem dX1_areAlike_6 : decode cX1_areAlike 6 = .ok (.aload_n 0, 1) := by decide +kernel
theorem dX1_areAlike_7 : decode cX1_areAlike 7 = .ok (.getfield 15, 3) := by decide +kernel
theorem dX1_areAlike_10 : decode cX1_areAlike 10 = .ok (.iload_n 2, 1) := by decide +kernel
theorem dX1_areAlike_11 : decode cX1_areAlike 11 = .ok (.iaload, 1) := by decide +kernel
theorem dX1_areAlike_12 : decode cX1_areAlike 12 = .ok (.if_icmp .ne 37, 3) := by decide +kernel
theorem dX1_areAlike_15 : decode cX1_areAlike 15 = .ok (.aload_n 0, 1) := by decide +kernel
theorem dX1_areAlike_16 : decode cX1_areAlike 16 = .ok (.getfield 25, 3) := by decide +kernel
theorem dX1_areAlike_19 : decode cX1_areAlike 19 = .ok (.iload_n 1, 1) := by decide +kernel
theorem dX1_areAlike_20 : decode cX1_areAlike 20 = .ok (.iaload, 1) := by decide +kernel
theorem dX1_areAlike_21 : decode cX1_areAlike 21 = .ok (.aload_n 0, 1) := by decide +kernel
theorem dX1_areAlike_22 : decode cX1_areAlike 22 = .ok (.getfield 25, 3) := by decide +kernel
theorem dX1_areAlike_25 : decode cX1_areAlike 25 = .ok (.iload_n 2, 1) := by decide +kernel
theorem dX1_areAlike_26 : decode cX1_areAlike 26 = .ok (.iaload, 1) := by decide +kernel
theorem dX1_areAlike_27 : decode cX1_areAlike 27 = .ok (.if_icmp .ne 22, 3) := by decide +kernel
theorem dX1_areAlike_30 : decode cX1_areAlike 30 = .ok (.aload_n 0, 1) := by decide +kernel
theorem dX1_areAlike_31 : decode cX1_areAlike 31 = .ok (.getfield 28, 3) := by decide +kernel
theorem dX1_areAlike_34 : decode cX1_areAlike 34 = .ok (.iload_n 1, 1) := by decide +kernel
theorem dX1_areAlike_35 : decode cX1_areAlike 35 = .ok (.iaload, 1) := by decide +kernel
theorem dX1_areAlike_36 : decode cX1_areAlike 36 = .ok (.aload_n 0, 1) := by decide +kernel
theorem dX1_areAlike_37 : decode cX1_areAlike 37 = .ok (.getfield 28, 3) := by decide +kernel
theorem dX1_areAlike_40 : decode cX1_areAlike 40 = .ok (.iload_n 2, 1) := by decide +kernel
theorem dX1_areAlike_41 : decode cX1_areAlike 41 = .ok (.iaload, 1) := by decide +kernel
theorem dX1_areAlike_42 : decode cX1_areAlike 42 = .ok (.if_icmp .ne 7, 3) := by decide +kernel
theorem dX1_areAlike_45 : decode cX1_areAlike 45 = .ok (.iconst 1, 1) := by decide +kernel
theorem dX1_areAlike_46 : decode cX1_areAlike 46 = .ok (.goto 4, 3) := by decide +kernel
theorem dX1_areAlike_49 : decode cX1_areAlike 49 = .ok (.iconst 0, 1) := by decide +kernel
theorem dX1_areAlike_50 : decode cX1_areAlike 50 = .ok (.ireturn, 1) := by decide +kernel
theorem dX2_init_0 : decode cX2_init 0 = .ok (.aload_n 0, 1) := by decide +kernel
theorem dX2_init_1 : decode cX2_init 1 = .ok (.invokespecial 3, 3) := by decide +kernel
theorem dX2_init_4 : decode cX2_init 4 = .ok (.aload_n 0, 1) := by decide +kernel
theorem dX2_init_5 : decode cX2_init 5 = .ok (.bipush 12, 2) := by decide +kernel
theorem dX2_init_7 : decode cX2_init 7 = .ok (.newarray .int, 2) := by decide +kernel
theorem dX2_init_9 : decode cX2_init 9 = .ok (.putfield 9, 3) := by decide +kernel
theorem dX2_init_12 : decode cX2_init 12 = .ok (.aload_n 0, 1) := by decide +kernel
theorem dX2_init_13 : decode cX2_init 13 = .ok (.bipush 12, 2) := by decide +kernel
theorem dX2_init_15 : decode cX2_init 15 = .ok (.newarray .int, 2) := by decide +kernel
theorem dX2_init_17 : decode cX2_init 17 = .ok (.putfield 15, 3) := by decide +kernel
theorem dX2_init_20 : decode cX2_init 20 = .ok (.aload_n 0, 1) := by decide +kernel
theorem dX2_init_21 : decode cX2_init 21 = .ok (.bipush 12, 2) := by decide +kernel
theorem dX2_init_23 : decode cX2_init 23 = .ok (.newarray .int, 2) := by decide +kernel
theorem dX2_init_25 : decode cX2_init 25 = .ok (.putfield 18, 3) := by decide +kernel
theorem dX2_init_28 : decode cX2_init 28 = .ok (.aload_n 0, 1) := by decide +kernel
theorem dX2_init_29 : decode cX2_init 29 = .ok (.bipush 12, 2) := by decide +kernel
theorem dX2_init_31 : decode cX2_init 31 = .ok (.newarray .int, 2) := by decide +kernel
theorem dX2_init_33 : decode cX2_init 33 = .ok (.putfield 21, 3) := by decide +kernel
theorem dX2_init_36 : decode cX2_init 36 = .ok (.aload_n 0, 1) := by decide +kernel
theorem dX2_init_37 : decode cX2_init 37 = .ok (.iconst 0, 1) := by decide +kernel
theorem dX2_init_38 : decode cX2_init 38 = .ok (.putfield 24, 3) := by decide +kernel
theorem dX2_init_41 : decode cX2_init 41 = .ok (.aload_n 0, 1) := by decide +kernel
theorem dX2_init_42 : decode cX2_init 42 = .ok (.bipush 12, 2) := by decide +kernel
theorem dX2_init_44 : decode cX2_init 44 = .ok (.newarray .int, 2) := by decide +kernel
theorem dX2_init_46 : decode cX2_init 46 = .ok (.putfield 28, 3) := by decide +kernel
theorem dX2_init_49 : decode cX2_init 49 = .ok (.aload_n 0, 1) := by decide +kernel
theorem dX2_init_50 : decode cX2_init 50 = .ok (.bipush 20, 2) := by decide +kernel
theorem dX2_init_52 : decode cX2_init 52 = .ok (.newarray .int, 2) := by decide +kernel
theorem dX2_init_54 : decode cX2_init 54 = .ok (.putfield 31, 3) := by decide +kernel
theorem dX2_init_57 : decode cX2_init 57 = .ok (.aload_n 0, 1) := by decide +kernel
theorem dX2_init_58 : decode cX2_init 58 = .ok (.iconst 0, 1) := by decide +kernel
theorem dX2_init_59 : decode cX2_init 59 = .ok (.putfield 34, 3) := by decide +kernel
theorem dX2_init_62 : decode cX2_init 62 = .ok (.aload_n 0, 1) := by decide +kernel
theorem dX2_init_63 : decode cX2_init 63 = .ok (.bipush 20, 2) := by decide +kernel
theorem dX2_init_65 : decode cX2_init 65 = .ok (.newarray .int, 2) := by decide +kernel
theorem dX2_init_67 : decode cX2_init 67 = .ok (.putfield 37, 3) := by decide +kernel
theorem dX2_init_70 : decode cX2_init 70 = .ok (.aload_n 0, 1) := by decide +kernel
theorem dX2_init_71 : decode cX2_init 71 = .ok (.iconst 0, 1) := by decide +kernel
theorem dX2_init_72 : decode cX2_init 72 = .ok (.putfield 40, 3) := by decide +kernel
theorem dX2_init_75 : decode cX2_init 75 = .ok (.aload_n 0, 1) := by decide +kernel
theorem dX2_init_76 : decode cX2_init 76 = .ok (.sipush 273, 3) := by decide +kernel
theorem dX2_init_79 : decode cX2_init 79 = .ok (.newarray .int, 2) := by decide +kernel
theorem dX2_init_81 : decode cX2_init 81 = .ok (.putfield 43, 3) := by decide +kernel
theorem dX2_init_84 : decode cX2_init 84 = .ok (.aload_n 0, 1) := by decide +kernel
theorem dX2_init_85 : decode cX2_init 85 = .ok (.aload_n 1, 1) := by decide +kernel
theorem dX2_init_86 : decode cX2_init 86 = .ok (.putfield 46, 3) := by decide +kernel
theorem dX2_init_89 : decode cX2_init 89 = .ok (.aload_n 0, 1) := by decide +kernel
theorem dX2_init_90 : decode cX2_init 90 = .ok (.aload_n 2, 1) := by decide +kernel
theorem dX2_init_91 : decode cX2_init 91 = .ok (.putfield 50, 3) := by decide +kernel
theorem dX2_init_94 : decode cX2_init 94 = .ok (.aload_n 0, 1) := by decide +kernel
theorem dX2_init_95 : decode cX2_init 95 = .ok (.aload_n 3, 1) := by decide +kernel
theorem dX2_init_96 : decode cX2_init 96 = .ok (.putfield 54, 3) := by decide +kernel
theorem dX2_init_99 : decode cX2_init 99 = .ok (.aload_n 0, 1) := by decide +kernel
theorem dX2_init_100 : decode cX2_init 100 = .ok (.aload 4, 2) := by decide +kernel
theorem dX2_init_102 : decode cX2_init 102 = .ok (.putfield 58, 3) := by decide +kernel
theorem dX2_init_105 : decode cX2_init 105 = .ok (.return_, 1) := by decide +kernel
theorem dX2_hold_0 : decode cX2_hold 0 = .ok (.aload_n 0, 1) := by decide +kernel
theorem dX2_hold_1 : decode cX2_hold 1 = .ok (.invokevirtual 62, 3) := by decide +kernel
theorem dX2_hold_4 : decode cX2_hold 4 = .ok (.aload_n 0, 1) := by decide +kernel
theorem dX2_hold_5 : decode cX2_hold 5 = .ok (.getfield 24, 3) := by decide +kernel
theorem dX2_hold_8 : decode cX2_hold 8 = .ok (.istore_n 1, 1) := by decide +kernel
theorem dX2_hold_9 : decode cX2_hold 9 = .ok (.iload_n 1, 1) := by decide +kernel
theorem dX2_hold_10 : decode cX2_hold 10 = .ok (.ifCond .lt 41, 3) := by decide +kernel
theorem dX2_hold_13 : decode cX2_hold 13 = .ok (.aload_n 0, 1) := by decide +kernel
theorem dX2_hold_14 : decode cX2_hold 14 = .ok (.getfield 40, 3) := by decide +kernel
theorem dX2_hold_17 : decode cX2_hold 17 = .ok (.istore_n 2, 1) := by decide +kernel
theorem dX2_hold_18 : decode cX2_hold 18 = .ok (.iload_n 2, 1) := by decide +kernel
theorem dX2_hold_19 : decode cX2_hold 19 = .ok (.ifCond .lt 26, 3) := by decide +kernel
theorem dX2_hold_22 : decode cX2_hold 22 = .ok (.aload_n 0, 1) := by decide +kernel
theorem dX2_hold_23 : decode cX2_hold 23 = .ok (.getfield 43, 3) := by decide +kernel
theorem dX2_hold_26 : decode cX2_hold 26 = .ok (.iload_n 1, 1) := by decide +kernel
theorem dX2_hold_27 : decode cX2_hold 27 = .ok (.bipush 21, 2) := by decide +kernel
theorem dX2_hold_29 : decode cX2_hold 29 = .ok (.imul, 1) := by decide +kernel
theorem dX2_hold_30 : decode cX2_hold 30 = .ok (.iload_n 2, 1) := by decide +kernel
theorem dX2_hold_31 : decode cX2_hold 31 = .ok (.iadd, 1) := by decide +kernel
theorem dX2_hold_32 : decode cX2_hold 32 = .ok (.aload_n 0, 1) := by decide +kernel
theorem dX2_hold_33 : decode cX2_hold 33 = .ok (.iload_n 1, 1) := by decide +kernel
theorem dX2_hold_34 : decode cX2_hold 34 = .ok (.iload_n 2, 1) := by decide +kernel
theorem dX2_hold_35 : decode cX2_hold 35 = .ok (.invokevirtual 65, 3) := by decide +kernel
theorem dX2_hold_38 : decode cX2_hold 38 = .ok (.iastore, 1) := by decide +kernel
theorem dX2_hold_39 : decode cX2_hold 39 = .ok (.iinc 2 (-1), 3) := by decide +kernel
theorem dX2_hold_42 : decode cX2_hold 42 = .ok (.goto (-24), 3) := by decide +kernel
theorem dX2_hold_45 : decode cX2_hold 45 = .ok (.iinc 1 (-1), 3) := by decide +kernel
theorem dX2_hold_48 : decode cX2_hold 48 = .ok (.goto (-39), 3) := by decide +kernel
theorem dX2_hold_51 : decode cX2_hold 51 = .ok (.aload_n 0, 1) := by decide +kernel
theorem dX2_hold_52 : decode cX2_hold 52 = .ok (.aload_n 0, 1) := by decide +kernel
theorem dX2_hold_53 : decode cX2_hold 53 = .ok (.getfield 43, 3) := by decide +kernel
theorem dX2_hold_56 : decode cX2_hold 56 = .ok (.iconst 0, 1) := by decide +kernel
theorem dX2_hold_57 : decode cX2_hold 57 = .ok (.iaload, 1) := by decide +kernel
theorem dX2_hold_58 : decode cX2_hold 58 = .ok (.putfield 34, 3) := by decide +kernel
theorem dX2_hold_61 : decode cX2_hold 61 = .ok (.aload_n 0, 1) := by decide +kernel
theorem dX2_hold_62 : decode cX2_hold 62 = .ok (.invokevirtual 69, 3) := by decide +kernel
theorem dX2_hold_65 : decode cX2_hold 65 = .ok (.return_, 1) := by decide +kernel
theorem dX2_gatherHeads_0 : decode cX2_gatherHeads 0 = .ok (.aload_n 0, 1) := by decide +kernel
theorem dX2_gatherHeads_1 : decode cX2_gatherHeads 1 = .ok (.iconst 0, 1) := by decide +kernel
theorem dX2_gatherHeads_2 : decode cX2_gatherHeads 2 = .ok (.putfield 40, 3) := by decide +kernel
theorem dX2_gatherHeads_5 : decode cX2_gatherHeads 5 = .ok (.iconst 0, 1) := by decide +kernel
theorem dX2_gatherHeads_6 : decode cX2_gatherHeads 6 = .ok (.istore_n 1, 1) := by decide +kernel
theorem dX2_gatherHeads_7 : decode cX2_gatherHeads 7 = .ok (.iload_n 1, 1) := by decide +kernel
theorem dX2_gatherHeads_8 : decode cX2_gatherHeads 8 = .ok (.aload_n 0, 1) := by decide +kernel
theorem dX2_gatherHeads_9 : decode cX2_gatherHeads 9 = .ok (.getfield 46, 3) := by decide +kernel
theorem dX2_gatherHeads_12 : decode cX2_gatherHeads 12 = .ok (.getfield 72, 3) := by decide +kernel
theorem dX2_gatherHeads_15 : decode cX2_gatherHeads 15 = .ok (.if_icmp .ge 41, 3) := by decide +kernel
theorem dX2_gatherHeads_18 : decode cX2_gatherHeads 18 = .ok (.aload_n 0, 1) := by decide +kernel
theorem dX2_gatherHeads_19 : decode cX2_gatherHeads 19 = .ok (.getfield 54, 3) := by decide +kernel
theorem dX2_gatherHeads_22 : decode cX2_gatherHeads 22 = .ok (.getfield 75, 3) := by decide +kernel
theorem dX2_gatherHeads_25 : decode cX2_gatherHeads 25 = .ok (.iload_n 1, 1) := by decide +kernel
theorem dX2_gatherHeads_26 : decode cX2_gatherHeads 26 = .ok (.iaload, 1) := by decide +kernel
theorem dX2_gatherHeads_27 : decode cX2_gatherHeads 27 = .ok (.ifCond .le 23, 3) := by decide +kernel
theorem dX2_gatherHeads_30 : decode cX2_gatherHeads 30 = .ok (.aload_n 0, 1) := by decide +kernel
theorem dX2_gatherHeads_31 : decode cX2_gatherHeads 31 = .ok (.getfield 37, 3) := by decide +kernel
theorem dX2_gatherHeads_34 : decode cX2_gatherHeads 34 = .ok (.aload_n 0, 1) := by decide +kernel
theorem dX2_gatherHeads_35 : decode cX2_gatherHeads 35 = .ok (.getfield 40, 3) := by decide +kernel
theorem dX2_gatherHeads_38 : decode cX2_gatherHeads 38 = .ok (.iload_n 1, 1) := by decide +kernel
theorem dX2_gatherHeads_39 : decode cX2_gatherHeads 39 = .ok (.iastore, 1) := by decide +kernel
theorem dX2_gatherHeads_40 : decode cX2_gatherHeads 40 = .ok (.aload_n 0, 1) := by decide +kernel
theorem dX2_gatherHeads_41 : decode cX2_gatherHeads 41 = .ok (.dup, 1) := by decide +kernel
theorem dX2_gatherHeads_42 : decode cX2_gatherHeads 42 = .ok (.getfield 40, 3) := by decide +kernel
theorem dX2_gatherHeads_45 : decode cX2_gatherHeads 45 = .ok (.iconst 1, 1) := by decide +kernel
theorem dX2_gatherHeads_46 : decode cX2_gatherHeads 46 = .ok (.iadd, 1) := by decide +kernel
theorem dX2_gatherHeads_47 : decode cX2_gatherHeads 47 = .ok (.putfield 40, 3) := by decide +kernel
theorem dX2_gatherHeads_50 : decode cX2_gatherHeads 50 = .ok (.iinc 1 1, 3) := by decide +kernel
theorem dX2_gatherHeads_53 : decode cX2_gatherHeads 53 = .ok (.goto (-46), 3) := by decide +kernel
theorem dX2_gatherHeads_56 : decode cX2_gatherHeads 56 = .ok (.return_, 1) := by decide +kernel
theorem dX2_leastFrom_0 : decode cX2_leastFrom 0 = .ok (.aload_n 0, 1) := by decide +kernel
theorem dX2_leastFrom_1 : decode cX2_leastFrom 1 = .ok (.getfield 58, 3) := by decide +kernel
theorem dX2_leastFrom_4 : decode cX2_leastFrom 4 = .ok (.getfield 80, 3) := by decide +kernel
theorem dX2_leastFrom_7 : decode cX2_leastFrom 7 = .ok (.bipush 7, 2) := by decide +kernel
theorem dX2_leastFrom_9 : decode cX2_leastFrom 9 = .ok (.iaload, 1) := by decide +kernel
theorem dX2_leastFrom_10 : decode cX2_leastFrom 10 = .ok (.istore_n 3, 1) := by decide +kernel
theorem dX2_leastFrom_11 : decode cX2_leastFrom 11 = .ok (.iload_n 1, 1) := by decide +kernel
theorem dX2_leastFrom_12 : decode cX2_leastFrom 12 = .ok (.aload_n 0, 1) := by decide +kernel
theorem dX2_leastFrom_13 : decode cX2_leastFrom 13 = .ok (.getfield 24, 3) := by decide +kernel
theorem dX2_leastFrom_16 : decode cX2_leastFrom 16 = .ok (.if_icmp .ne 12, 3) := by decide +kernel
theorem dX2_leastFrom_19 : decode cX2_leastFrom 19 = .ok (.iload_n 3, 1) := by decide +kernel
theorem dX2_leastFrom_20 : decode cX2_leastFrom 20 = .ok (.aload_n 0, 1) := by decide +kernel
theorem dX2_leastFrom_21 : decode cX2_leastFrom 21 = .ok (.getfield 40, 3) := by decide +kernel
theorem dX2_leastFrom_24 : decode cX2_leastFrom 24 = .ok (.iload_n 2, 1) := by decide +kernel
theorem dX2_leastFrom_25 : decode cX2_leastFrom 25 = .ok (.isub, 1) := by decide +kernel
theorem dX2_leastFrom_26 : decode cX2_leastFrom 26 = .ok (.imul, 1) := by decide +kernel
theorem dX2_leastFrom_27 : decode cX2_leastFrom 27 = .ok (.ireturn, 1) := by decide +kernel
theorem dX2_leastFrom_28 : decode cX2_leastFrom 28 = .ok (.iload_n 2, 1) := by decide +kernel
theorem dX2_leastFrom_29 : decode cX2_leastFrom 29 = .ok (.aload_n 0, 1) := by decide +kernel
theorem dX2_leastFrom_30 : decode cX2_leastFrom 30 = .ok (.getfield 40, 3) := by decide +kernel
theorem dX2_leastFrom_33 : decode cX2_leastFrom 33 = .ok (.if_icmp .ne 12, 3) := by decide +kernel
theorem dX2_leastFrom_36 : decode cX2_leastFrom 36 = .ok (.iload_n 3, 1) := by decide +kernel
theorem dX2_leastFrom_37 : decode cX2_leastFrom 37 = .ok (.aload_n 0, 1) := by decide +kernel
theorem dX2_leastFrom_38 : decode cX2_leastFrom 38 = .ok (.getfield 24, 3) := by decide +kernel
theorem dX2_leastFrom_41 : decode cX2_leastFrom 41 = .ok (.iload_n 1, 1) := by decide +kernel
theorem dX2_leastFrom_42 : decode cX2_leastFrom 42 = .ok (.isub, 1) := by decide +kernel
theorem dX2_leastFrom_43 : decode cX2_leastFrom 43 = .ok (.imul, 1) := by decide +kernel
theorem dX2_leastFrom_44 : decode cX2_leastFrom 44 = .ok (.ireturn, 1) := by decide +kernel
theorem dX2_leastFrom_45 : decode cX2_leastFrom 45 = .ok (.iload_n 1, 1) := by decide +kernel
theorem dX2_leastFrom_46 : decode cX2_leastFrom 46 = .ok (.bipush 21, 2) := by decide +kernel
theorem dX2_leastFrom_48 : decode cX2_leastFrom 48 = .ok (.imul, 1) := by decide +kernel
theorem dX2_leastFrom_49 : decode cX2_leastFrom 49 = .ok (.iload_n 2, 1) := by decide +kernel
theorem dX2_leastFrom_50 : decode cX2_leastFrom 50 = .ok (.iadd, 1) := by decide +kernel
theorem dX2_leastFrom_51 : decode cX2_leastFrom 51 = .ok (.istore 4, 2) := by decide +kernel
theorem dX2_leastFrom_53 : decode cX2_leastFrom 53 = .ok (.iload_n 3, 1) := by decide +kernel
theorem dX2_leastFrom_54 : decode cX2_leastFrom 54 = .ok (.aload_n 0, 1) := by decide +kernel
theorem dX2_leastFrom_55 : decode cX2_leastFrom 55 = .ok (.getfield 43, 3) := by decide +kernel
theorem dX2_leastFrom_58 : decode cX2_leastFrom 58 = .ok (.iload 4, 2) := by decide +kernel
theorem dX2_leastFrom_60 : decode cX2_leastFrom 60 = .ok (.bipush 21, 2) := by decide +kernel
theorem dX2_leastFrom_62 : decode cX2_leastFrom 62 = .ok (.iadd, 1) := by decide +kernel
theorem dX2_leastFrom_63 : decode cX2_leastFrom 63 = .ok (.iaload, 1) := by decide +kernel
theorem dX2_leastFrom_64 : decode cX2_leastFrom 64 = .ok (.aload_n 0, 1) := by decide +kernel
theorem dX2_leastFrom_65 : decode cX2_leastFrom 65 = .ok (.getfield 43, 3) := by decide +kernel
theorem dX2_leastFrom_68 : decode cX2_leastFrom 68 = .ok (.iload 4, 2) := by decide +kernel
theorem dX2_leastFrom_70 : decode cX2_leastFrom 70 = .ok (.iconst 1, 1) := by decide +kernel
theorem dX2_leastFrom_71 : decode cX2_leastFrom 71 = .ok (.iadd, 1) := by decide +kernel
theorem dX2_leastFrom_72 : decode cX2_leastFrom 72 = .ok (.iaload, 1) := by decide +kernel
theorem dX2_leastFrom_73 : decode cX2_leastFrom 73 = .ok (.invokestatic 85, 3) := by decide +kernel
theorem dX2_leastFrom_76 : decode cX2_leastFrom 76 = .ok (.iadd, 1) := by decide +kernel
theorem dX2_leastFrom_77 : decode cX2_leastFrom 77 = .ok (.istore 5, 2) := by decide +kernel
theorem dX2_leastFrom_79 : decode cX2_leastFrom 79 = .ok (.iload 5, 2) := by decide +kernel
theorem dX2_leastFrom_81 : decode cX2_leastFrom 81 = .ok (.aload_n 0, 1) := by decide +kernel
theorem dX2_leastFrom_82 : decode cX2_leastFrom 82 = .ok (.iload_n 1, 1) := by decide +kernel
theorem dX2_leastFrom_83 : decode cX2_leastFrom 83 = .ok (.iload_n 2, 1) := by decide +kernel
theorem dX2_leastFrom_84 : decode cX2_leastFrom 84 = .ok (.invokevirtual 90, 3) := by decide +kernel
theorem dX2_leastFrom_87 : decode cX2_leastFrom 87 = .ok (.aload_n 0, 1) := by decide +kernel
theorem dX2_leastFrom_88 : decode cX2_leastFrom 88 = .ok (.getfield 43, 3) := by decide +kernel
theorem dX2_leastFrom_91 : decode cX2_leastFrom 91 = .ok (.iload 4, 2) := by decide +kernel
theorem dX2_leastFrom_93 : decode cX2_leastFrom 93 = .ok (.bipush 21, 2) := by decide +kernel
theorem dX2_leastFrom_95 : decode cX2_leastFrom 95 = .ok (.iadd, 1) := by decide +kernel
theorem dX2_leastFrom_96 : decode cX2_leastFrom 96 = .ok (.iconst 1, 1) := by decide +kernel
theorem dX2_leastFrom_97 : decode cX2_leastFrom 97 = .ok (.iadd, 1) := by decide +kernel
theorem dX2_leastFrom_98 : decode cX2_leastFrom 98 = .ok (.iaload, 1) := by decide +kernel
theorem dX2_leastFrom_99 : decode cX2_leastFrom 99 = .ok (.iadd, 1) := by decide +kernel
theorem dX2_leastFrom_100 : decode cX2_leastFrom 100 = .ok (.invokestatic 85, 3) := by decide +kernel
theorem dX2_leastFrom_103 : decode cX2_leastFrom 103 = .ok (.ireturn, 1) := by decide +kernel
theorem dX2_pairCost_0 : decode cX2_pairCost 0 = .ok (.aload_n 0, 1) := by decide +kernel
theorem dX2_pairCost_1 : decode cX2_pairCost 1 = .ok (.getfield 37, 3) := by decide +kernel
theorem dX2_pairCost_4 : decode cX2_pairCost 4 = .ok (.iload_n 2, 1) := by decide +kernel
theorem dX2_pairCost_5 : decode cX2_pairCost 5 = .ok (.iaload, 1) := by decide +kernel
theorem dX2_pairCost_6 : decode cX2_pairCost 6 = .ok (.istore_n 3, 1) := by decide +kernel
theorem dX2_pairCost_7 : decode cX2_pairCost 7 = .ok (.aload_n 0, 1) := by decide +kernel
theorem dX2_pairCost_8 : decode cX2_pairCost 8 = .ok (.getfield 18, 3) := by decide +kernel
theorem dX2_pairCost_11 : decode cX2_pairCost 11 = .ok (.iload_n 1, 1) := by decide +kernel
theorem dX2_pairCost_12 : decode cX2_pairCost 12 = .ok (.iaload, 1) := by decide +kernel
theorem dX2_pairCost_13 : decode cX2_pairCost 13 = .ok (.aload_n 0, 1) := by decide +kernel
theorem dX2_pairCost_14 : decode cX2_pairCost 14 = .ok (.getfield 46, 3) := by decide +kernel
theorem dX2_pairCost_17 : decode cX2_pairCost 17 = .ok (.getfield 93, 3) := by decide +kernel
theorem dX2_pairCost_20 : decode cX2_pairCost 20 = .ok (.iload_n 3, 1) := by decide +kernel
theorem dX2_pairCost_21 : decode cX2_pairCost 21 = .ok (.iaload, 1) := by decide +kernel
theorem dX2_pairCost_22 : decode cX2_pairCost 22 = .ok (.invokestatic 94, 3) := by decide +kernel
theorem dX2_pairCost_25 : decode cX2_pairCost 25 = .ok (.aload_n 0, 1) := by decide +kernel
theorem dX2_pairCost_26 : decode cX2_pairCost 26 = .ok (.getfield 21, 3) := by decide +kernel
theorem dX2_pairCost_29 : decode cX2_pairCost 29 = .ok (.iload_n 1, 1) := by decide +kernel
theorem dX2_pairCost_30 : decode cX2_pairCost 30 = .ok (.iaload, 1) := by decide +kernel
theorem dX2_pairCost_31 : decode cX2_pairCost 31 = .ok (.aload_n 0, 1) := by decide +kernel
theorem dX2_pairCost_32 : decode cX2_pairCost 32 = .ok (.getfield 46, 3) := by decide +kernel
theorem dX2_pairCost_35 : decode cX2_pairCost 35 = .ok (.getfield 97, 3) := by decide +kernel
theorem dX2_pairCost_38 : decode cX2_pairCost 38 = .ok (.iload_n 3, 1) := by decide +kernel
theorem dX2_pairCost_39 : decode cX2_pairCost 39 = .ok (.iaload, 1) := by decide +kernel
theorem dX2_pairCost_40 : decode cX2_pairCost 40 = .ok (.invokestatic 94, 3) := by decide +kernel
theorem dX2_pairCost_43 : decode cX2_pairCost 43 = .ok (.iadd, 1) := by decide +kernel
theorem dX2_pairCost_44 : decode cX2_pairCost 44 = .ok (.istore 4, 2) := by decide +kernel
theorem dX2_pairCost_46 : decode cX2_pairCost 46 = .ok (.aload_n 0, 1) := by decide +kernel
theorem dX2_pairCost_47 : decode cX2_pairCost 47 = .ok (.getfield 9, 3) := by decide +kernel
theorem dX2_pairCost_50 : decode cX2_pairCost 50 = .ok (.iload_n 1, 1) := by decide +kernel
theorem dX2_pairCost_51 : decode cX2_pairCost 51 = .ok (.iaload, 1) := by decide +kernel
theorem dX2_pairCost_52 : decode cX2_pairCost 52 = .ok (.aload_n 0, 1) := by decide +kernel
theorem dX2_pairCost_53 : decode cX2_pairCost 53 = .ok (.getfield 54, 3) := by decide +kernel
theorem dX2_pairCost_56 : decode cX2_pairCost 56 = .ok (.getfield 75, 3) := by decide +kernel
theorem dX2_pairCost_59 : decode cX2_pairCost 59 = .ok (.iload_n 3, 1) := by decide +kernel
theorem dX2_pairCost_60 : decode cX2_pairCost 60 = .ok (.iaload, 1) := by decide +kernel
theorem dX2_pairCost_61 : decode cX2_pairCost 61 = .ok (.isub, 1) := by decide +kernel
theorem dX2_pairCost_62 : decode cX2_pairCost 62 = .ok (.invokestatic 98, 3) := by decide +kernel
theorem dX2_pairCost_65 : decode cX2_pairCost 65 = .ok (.istore 5, 2) := by decide +kernel
theorem dX2_pairCost_67 : decode cX2_pairCost 67 = .ok (.aload_n 0, 1) := by decide +kernel
theorem dX2_pairCost_68 : decode cX2_pairCost 68 = .ok (.getfield 50, 3) := by decide +kernel
theorem dX2_pairCost_71 : decode cX2_pairCost 71 = .ok (.getfield 102, 3) := by decide +kernel
theorem dX2_pairCost_74 : decode cX2_pairCost 74 = .ok (.aload_n 0, 1) := by decide +kernel
theorem dX2_pairCost_75 : decode cX2_pairCost 75 = .ok (.getfield 46, 3) := by decide +kernel
theorem dX2_pairCost_78 : decode cX2_pairCost 78 = .ok (.getfield 107, 3) := by decide +kernel
theorem dX2_pairCost_81 : decode cX2_pairCost 81 = .ok (.iload_n 3, 1) := by decide +kernel
theorem dX2_pairCost_82 : decode cX2_pairCost 82 = .ok (.iaload, 1) := by decide +kernel
theorem dX2_pairCost_83 : decode cX2_pairCost 83 = .ok (.iaload, 1) := by decide +kernel
theorem dX2_pairCost_84 : decode cX2_pairCost 84 = .ok (.aload_n 0, 1) := by decide +kernel
theorem dX2_pairCost_85 : decode cX2_pairCost 85 = .ok (.getfield 15, 3) := by decide +kernel
theorem dX2_pairCost_88 : decode cX2_pairCost 88 = .ok (.iload_n 1, 1) := by decide +kernel
theorem dX2_pairCost_89 : decode cX2_pairCost 89 = .ok (.iaload, 1) := by decide +kernel
theorem dX2_pairCost_90 : decode cX2_pairCost 90 = .ok (.if_icmp .ne 7, 3) := by decide +kernel
theorem dX2_pairCost_93 : decode cX2_pairCost 93 = .ok (.iconst 1, 1) := by decide +kernel
theorem dX2_pairCost_94 : decode cX2_pairCost 94 = .ok (.goto 4, 3) := by decide +kernel
theorem dX2_pairCost_97 : decode cX2_pairCost 97 = .ok (.iconst 0, 1) := by decide +kernel
theorem dX2_pairCost_98 : decode cX2_pairCost 98 = .ok (.istore 6, 2) := by decide +kernel
theorem dX2_pairCost_100 : decode cX2_pairCost 100 = .ok (.aload_n 0, 1) := by decide +kernel
theorem dX2_pairCost_101 : decode cX2_pairCost 101 = .ok (.getfield 58, 3) := by decide +kernel
theorem dX2_pairCost_104 : decode cX2_pairCost 104 = .ok (.getfield 80, 3) := by decide +kernel
theorem dX2_pairCost_107 : decode cX2_pairCost 107 = .ok (.iconst 4, 1) := by decide +kernel
theorem dX2_pairCost_108 : decode cX2_pairCost 108 = .ok (.iaload, 1) := by decide +kernel
theorem dX2_pairCost_109 : decode cX2_pairCost 109 = .ok (.iload 4, 2) := by decide +kernel
theorem dX2_pairCost_111 : decode cX2_pairCost 111 = .ok (.imul, 1) := by decide +kernel
theorem dX2_pairCost_112 : decode cX2_pairCost 112 = .ok (.aload_n 0, 1) := by decide +kernel
theorem dX2_pairCost_113 : decode cX2_pairCost 113 = .ok (.getfield 58, 3) := by decide +kernel
theorem dX2_pairCost_116 : decode cX2_pairCost 116 = .ok (.getfield 80, 3) := by decide +kernel
theorem dX2_pairCost_119 : decode cX2_pairCost 119 = .ok (.iconst 5, 1) := by decide +kernel
theorem dX2_pairCost_120 : decode cX2_pairCost 120 = .ok (.iaload, 1) := by decide +kernel
theorem dX2_pairCost_121 : decode cX2_pairCost 121 = .ok (.iload 5, 2) := by decide +kernel
theorem dX2_pairCost_123 : decode cX2_pairCost 123 = .ok (.imul, 1) := by decide +kernel
theorem dX2_pairCost_124 : decode cX2_pairCost 124 = .ok (.iadd, 1) := by decide +kernel
theorem dX2_pairCost_125 : decode cX2_pairCost 125 = .ok (.iload 6, 2) := by decide +kernel
theorem dX2_pairCost_127 : decode cX2_pairCost 127 = .ok (.ifCond .eq 7, 3) := by decide +kernel
theorem dX2_pairCost_130 : decode cX2_pairCost 130 = .ok (.iconst 0, 1) := by decide +kernel
theorem dX2_pairCost_131 : decode cX2_pairCost 131 = .ok (.goto 13, 3) := by decide +kernel
theorem dX2_pairCost_134 : decode cX2_pairCost 134 = .ok (.aload_n 0, 1) := by decide +kernel
theorem dX2_pairCost_135 : decode cX2_pairCost 135 = .ok (.getfield 58, 3) := by decide +kernel
theorem dX2_pairCost_138 : decode cX2_pairCost 138 = .ok (.getfield 80, 3) := by decide +kernel
theorem dX2_pairCost_141 : decode cX2_pairCost 141 = .ok (.bipush 6, 2) := by decide +kernel
theorem dX2_pairCost_143 : decode cX2_pairCost 143 = .ok (.iaload, 1) := by decide +kernel
theorem dX2_pairCost_144 : decode cX2_pairCost 144 = .ok (.iadd, 1) := by decide +kernel
theorem dX2_pairCost_145 : decode cX2_pairCost 145 = .ok (.ireturn, 1) := by decide +kernel
theorem dX2_unlikePlaces_0 : decode cX2_unlikePlaces 0 = .ok (.iconst 0, 1) := by decide +kernel
theorem dX2_unlikePlaces_1 : decode cX2_unlikePlaces 1 = .ok (.istore_n 2, 1) := by decide +kernel
theorem dX2_unlikePlaces_2 : decode cX2_unlikePlaces 2 = .ok (.iconst 0, 1) := by decide +kernel
theorem dX2_unlikePlaces_3 : decode cX2_unlikePlaces 3 = .ok (.istore_n 3, 1) := by decide +kernel
theorem dX2_unlikePlaces_4 : decode cX2_unlikePlaces 4 = .ok (.iload_n 3, 1) := by decide +kernel
theorem dX2_unlikePlaces_5 : decode cX2_unlikePlaces 5 = .ok (.bipush 32, 2) := by decide +kernel
theorem dX2_unlikePlaces_7 : decode cX2_unlikePlaces 7 = .ok (.if_icmp .ge 24, 3) := by decide +kernel
theorem dX2_unlikePlaces_10 : decode cX2_unlikePlaces 10 = .ok (.iload_n 0, 1) := by decide +kernel
theorem dX2_unlikePlaces_11 : decode cX2_unlikePlaces 11 = .ok (.iload_n 1, 1) := by decide +kernel
theorem dX2_unlikePlaces_12 : decode cX2_unlikePlaces 12 = .ok (.ixor, 1) := by decide +kernel
theorem dX2_unlikePlaces_13 : decode cX2_unlikePlaces 13 = .ok (.iload_n 3, 1) := by decide +kernel
theorem dX2_unlikePlaces_14 : decode cX2_unlikePlaces 14 = .ok (.iushr, 1) := by decide +kernel
theorem dX2_unlikePlaces_15 : decode cX2_unlikePlaces 15 = .ok (.sipush 255, 3) := by decide +kernel
theorem dX2_unlikePlaces_18 : decode cX2_unlikePlaces 18 = .ok (.iand, 1) := by decide +kernel
theorem dX2_unlikePlaces_19 : decode cX2_unlikePlaces 19 = .ok (.ifCond .eq 6, 3) := by decide +kernel
theorem dX2_unlikePlaces_22 : decode cX2_unlikePlaces 22 = .ok (.iinc 2 1, 3) := by decide +kernel
theorem dX2_unlikePlaces_25 : decode cX2_unlikePlaces 25 = .ok (.iinc 3 8, 3) := by decide +kernel
theorem dX2_unlikePlaces_28 : decode cX2_unlikePlaces 28 = .ok (.goto (-24), 3) := by decide +kernel
theorem dX2_unlikePlaces_31 : decode cX2_unlikePlaces 31 = .ok (.iload_n 2, 1) := by decide +kernel
theorem dX2_unlikePlaces_32 : decode cX2_unlikePlaces 32 = .ok (.ireturn, 1) := by decide +kernel
theorem dX2_tellPartners_0 : decode cX2_tellPartners 0 = .ok (.aload_n 0, 1) := by decide +kernel
theorem dX2_tellPartners_1 : decode cX2_tellPartners 1 = .ok (.getfield 28, 3) := by decide +kernel
theorem dX2_tellPartners_4 : decode cX2_tellPartners 4 = .ok (.iconst (-1), 1) := by decide +kernel
theorem dX2_tellPartners_5 : decode cX2_tellPartners 5 = .ok (.invokestatic 110, 3) := by decide +kernel
theorem dX2_tellPartners_8 : decode cX2_tellPartners 8 = .ok (.aload_n 0, 1) := by decide +kernel
theorem dX2_tellPartners_9 : decode cX2_tellPartners 9 = .ok (.getfield 31, 3) := by decide +kernel
theorem dX2_tellPartners_12 : decode cX2_tellPartners 12 = .ok (.iconst (-1), 1) := by decide +kernel
theorem dX2_tellPartners_13 : decode cX2_tellPartners 13 = .ok (.invokestatic 110, 3) := by decide +kernel
theorem dX2_tellPartners_16 : decode cX2_tellPartners 16 = .ok (.iconst 0, 1) := by decide +kernel
theorem dX2_tellPartners_17 : decode cX2_tellPartners 17 = .ok (.istore_n 1, 1) := by decide +kernel
theorem dX2_tellPartners_18 : decode cX2_tellPartners 18 = .ok (.iconst 0, 1) := by decide +kernel
theorem dX2_tellPartners_19 : decode cX2_tellPartners 19 = .ok (.istore_n 2, 1) := by decide +kernel
theorem dX2_tellPartners_20 : decode cX2_tellPartners 20 = .ok (.iload_n 2, 1) := by decide +kernel
theorem dX2_tellPartners_21 : decode cX2_tellPartners 21 = .ok (.aload_n 0, 1) := by decide +kernel
theorem dX2_tellPartners_22 : decode cX2_tellPartners 22 = .ok (.getfield 24, 3) := by decide +kernel
theorem dX2_tellPartners_25 : decode cX2_tellPartners 25 = .ok (.if_icmp .ge 49, 3) := by decide +kernel
theorem dX2_tellPartners_28 : decode cX2_tellPartners 28 = .ok (.aload_n 0, 1) := by decide +kernel
theorem dX2_tellPartners_29 : decode cX2_tellPartners 29 = .ok (.iload_n 2, 1) := by decide +kernel
theorem dX2_tellPartners_30 : decode cX2_tellPartners 30 = .ok (.iload_n 1, 1) := by decide +kernel
theorem dX2_tellPartners_31 : decode cX2_tellPartners 31 = .ok (.invokevirtual 116, 3) := by decide +kernel
theorem dX2_tellPartners_34 : decode cX2_tellPartners 34 = .ok (.istore_n 3, 1) := by decide +kernel
theorem dX2_tellPartners_35 : decode cX2_tellPartners 35 = .ok (.iload_n 3, 1) := by decide +kernel
theorem dX2_tellPartners_36 : decode cX2_tellPartners 36 = .ok (.iconst (-1), 1) := by decide +kernel
theorem dX2_tellPartners_37 : decode cX2_tellPartners 37 = .ok (.if_icmp .eq 31, 3) := by decide +kernel
theorem dX2_tellPartners_40 : decode cX2_tellPartners 40 = .ok (.aload_n 0, 1) := by decide +kernel
theorem dX2_tellPartners_41 : decode cX2_tellPartners 41 = .ok (.getfield 28, 3) := by decide +kernel
theorem dX2_tellPartners_44 : decode cX2_tellPartners 44 = .ok (.iload_n 2, 1) := by decide +kernel
theorem dX2_tellPartners_45 : decode cX2_tellPartners 45 = .ok (.aload_n 0, 1) := by decide +kernel
theorem dX2_tellPartners_46 : decode cX2_tellPartners 46 = .ok (.getfield 37, 3) := by decide +kernel
theorem dX2_tellPartners_49 : decode cX2_tellPartners 49 = .ok (.iload_n 3, 1) := by decide +kernel
theorem dX2_tellPartners_50 : decode cX2_tellPartners 50 = .ok (.iaload, 1) := by decide +kernel
theorem dX2_tellPartners_51 : decode cX2_tellPartners 51 = .ok (.iastore, 1) := by decide +kernel
theorem dX2_tellPartners_52 : decode cX2_tellPartners 52 = .ok (.aload_n 0, 1) := by decide +kernel
theorem dX2_tellPartners_53 : decode cX2_tellPartners 53 = .ok (.getfield 31, 3) := by decide +kernel
theorem dX2_tellPartners_56 : decode cX2_tellPartners 56 = .ok (.aload_n 0, 1) := by decide +kernel
theorem dX2_tellPartners_57 : decode cX2_tellPartners 57 = .ok (.getfield 37, 3) := by decide +kernel
theorem dX2_tellPartners_60 : decode cX2_tellPartners 60 = .ok (.iload_n 3, 1) := by decide +kernel
theorem dX2_tellPartners_61 : decode cX2_tellPartners 61 = .ok (.iaload, 1) := by decide +kernel
theorem dX2_tellPartners_62 : decode cX2_tellPartners 62 = .ok (.iload_n 2, 1) := by decide +kernel
theorem dX2_tellPartners_63 : decode cX2_tellPartners 63 = .ok (.iastore, 1) := by decide +kernel
theorem dX2_tellPartners_64 : decode cX2_tellPartners 64 = .ok (.iload_n 3, 1) := by decide +kernel
theorem dX2_tellPartners_65 : decode cX2_tellPartners 65 = .ok (.iconst 1, 1) := by decide +kernel
theorem dX2_tellPartners_66 : decode cX2_tellPartners 66 = .ok (.iadd, 1) := by decide +kernel
theorem dX2_tellPartners_67 : decode cX2_tellPartners 67 = .ok (.istore_n 1, 1) := by decide +kernel
theorem dX2_tellPartners_68 : decode cX2_tellPartners 68 = .ok (.iinc 2 1, 3) := by decide +kernel
theorem dX2_tellPartners_71 : decode cX2_tellPartners 71 = .ok (.goto (-51), 3) := by decide +kernel
theorem dX2_tellPartners_74 : decode cX2_tellPartners 74 = .ok (.return_, 1) := by decide +kernel
theorem dX2_firstCheapHead_0 : decode cX2_firstCheapHead 0 = .ok (.aload_n 0, 1) := by decide +kernel
theorem dX2_firstCheapHead_1 : decode cX2_firstCheapHead 1 = .ok (.getfield 43, 3) := by decide +kernel
theorem dX2_firstCheapHead_4 : decode cX2_firstCheapHead 4 = .ok (.iload_n 1, 1) := by decide +kernel
theorem dX2_firstCheapHead_5 : decode cX2_firstCheapHead 5 = .ok (.bipush 21, 2) := by decide +kernel
theorem dX2_firstCheapHead_7 : decode cX2_firstCheapHead 7 = .ok (.imul, 1) := by decide +kernel
theorem dX2_firstCheapHead_8 : decode cX2_firstCheapHead 8 = .ok (.iload_n 2, 1) := by decide +kernel
theorem dX2_firstCheapHead_9 : decode cX2_firstCheapHead 9 = .ok (.iadd, 1) := by decide +kernel
theorem dX2_firstCheapHead_10 : decode cX2_firstCheapHead 10 = .ok (.iaload, 1) := by decide +kernel
theorem dX2_firstCheapHead_11 : decode cX2_firstCheapHead 11 = .ok (.istore_n 3, 1) := by decide +kernel
theorem dX2_firstCheapHead_12 : decode cX2_firstCheapHead 12 = .ok (.iconst 0, 1) := by decide +kernel
theorem dX2_firstCheapHead_13 : decode cX2_firstCheapHead 13 = .ok (.istore 4, 2) := by decide +kernel
theorem dX2_firstCheapHead_15 : decode cX2_firstCheapHead 15 = .ok (.iload_n 2, 1) := by decide +kernel
theorem dX2_firstCheapHead_16 : decode cX2_firstCheapHead 16 = .ok (.istore 5, 2) := by decide +kernel
theorem dX2_firstCheapHead_18 : decode cX2_firstCheapHead 18 = .ok (.iload 5, 2) := by decide +kernel
theorem dX2_firstCheapHead_20 : decode cX2_firstCheapHead 20 = .ok (.aload_n 0, 1) := by decide +kernel
theorem dX2_firstCheapHead_21 : decode cX2_firstCheapHead 21 = .ok (.getfield 40, 3) := by decide +kernel
theorem dX2_firstCheapHead_24 : decode cX2_firstCheapHead 24 = .ok (.if_icmp .ge 62, 3) := by decide +kernel
theorem dX2_firstCheapHead_27 : decode cX2_firstCheapHead 27 = .ok (.aload_n 0, 1) := by decide +kernel
theorem dX2_firstCheapHead_28 : decode cX2_firstCheapHead 28 = .ok (.getfield 43, 3) := by decide +kernel
theorem dX2_firstCheapHead_31 : decode cX2_firstCheapHead 31 = .ok (.iload_n 1, 1) := by decide +kernel
theorem dX2_firstCheapHead_32 : decode cX2_firstCheapHead 32 = .ok (.iconst 1, 1) := by decide +kernel
theorem dX2_firstCheapHead_33 : decode cX2_firstCheapHead 33 = .ok (.iadd, 1) := by decide +kernel
theorem dX2_firstCheapHead_34 : decode cX2_firstCheapHead 34 = .ok (.bipush 21, 2) := by decide +kernel
theorem dX2_firstCheapHead_36 : decode cX2_firstCheapHead 36 = .ok (.imul, 1) := by decide +kernel
theorem dX2_firstCheapHead_37 : decode cX2_firstCheapHead 37 = .ok (.iload 5, 2) := by decide +kernel
theorem dX2_firstCheapHead_39 : decode cX2_firstCheapHead 39 = .ok (.iadd, 1) := by decide +kernel
theorem dX2_firstCheapHead_40 : decode cX2_firstCheapHead 40 = .ok (.iconst 1, 1) := by decide +kernel
theorem dX2_firstCheapHead_41 : decode cX2_firstCheapHead 41 = .ok (.iadd, 1) := by decide +kernel
theorem dX2_firstCheapHead_42 : decode cX2_firstCheapHead 42 = .ok (.iaload, 1) := by decide +kernel
theorem dX2_firstCheapHead_43 : decode cX2_firstCheapHead 43 = .ok (.istore 6, 2) := by decide +kernel
theorem dX2_firstCheapHead_45 : decode cX2_firstCheapHead 45 = .ok (.iload 4, 2) := by decide +kernel
theorem dX2_firstCheapHead_47 : decode cX2_firstCheapHead 47 = .ok (.aload_n 0, 1) := by decide +kernel
theorem dX2_firstCheapHead_48 : decode cX2_firstCheapHead 48 = .ok (.iload_n 1, 1) := by decide +kernel
theorem dX2_firstCheapHead_49 : decode cX2_firstCheapHead 49 = .ok (.iload 5, 2) := by decide +kernel
theorem dX2_firstCheapHead_51 : decode cX2_firstCheapHead 51 = .ok (.invokevirtual 90, 3) := by decide +kernel
theorem dX2_firstCheapHead_54 : decode cX2_firstCheapHead 54 = .ok (.iadd, 1) := by decide +kernel
theorem dX2_firstCheapHead_55 : decode cX2_firstCheapHead 55 = .ok (.iload 6, 2) := by decide +kernel
theorem dX2_firstCheapHead_57 : decode cX2_firstCheapHead 57 = .ok (.iadd, 1) := by decide +kernel
theorem dX2_firstCheapHead_58 : decode cX2_firstCheapHead 58 = .ok (.iload_n 3, 1) := by decide +kernel
theorem dX2_firstCheapHead_59 : decode cX2_firstCheapHead 59 = .ok (.if_icmp .ne 6, 3) := by decide +kernel
theorem dX2_firstCheapHead_62 : decode cX2_firstCheapHead 62 = .ok (.iload 5, 2) := by decide +kernel
theorem dX2_firstCheapHead_64 : decode cX2_firstCheapHead 64 = .ok (.ireturn, 1) := by decide +kernel
theorem dX2_firstCheapHead_65 : decode cX2_firstCheapHead 65 = .ok (.iload 4, 2) := by decide +kernel
theorem dX2_firstCheapHead_67 : decode cX2_firstCheapHead 67 = .ok (.aload_n 0, 1) := by decide +kernel
theorem dX2_firstCheapHead_68 : decode cX2_firstCheapHead 68 = .ok (.getfield 58, 3) := by decide +kernel
theorem dX2_firstCheapHead_71 : decode cX2_firstCheapHead 71 = .ok (.getfield 80, 3) := by decide +kernel
theorem dX2_firstCheapHead_74 : decode cX2_firstCheapHead 74 = .ok (.bipush 7, 2) := by decide +kernel
theorem dX2_firstCheapHead_76 : decode cX2_firstCheapHead 76 = .ok (.iaload, 1) := by decide +kernel
theorem dX2_firstCheapHead_77 : decode cX2_firstCheapHead 77 = .ok (.iadd, 1) := by decide +kernel
theorem dX2_firstCheapHead_78 : decode cX2_firstCheapHead 78 = .ok (.istore 4, 2) := by decide +kernel
theorem dX2_firstCheapHead_80 : decode cX2_firstCheapHead 80 = .ok (.iinc 5 1, 3) := by decide +kernel
theorem dX2_firstCheapHead_83 : decode cX2_firstCheapHead 83 = .ok (.goto (-65), 3) := by decide +kernel
theorem dX2_firstCheapHead_86 : decode cX2_firstCheapHead 86 = .ok (.iconst (-1), 1) := by decide +kernel
theorem dX2_firstCheapHead_87 : decode cX2_firstCheapHead 87 = .ok (.ireturn, 1) := by decide +kernel
theorem dX3_init_0 : decode cX3_init 0 = .ok (.aload_n 0, 1) := by decide +kernel
theorem dX3_init_1 : decode cX3_init 1 = .ok (.invokespecial 3, 3) := by decide +kernel
theorem dX3_init_4 : decode cX3_init 4 = .ok (.aload_n 0, 1) := by decide +kernel
theorem dX3_init_5 : decode cX3_init 5 = .ok (.bipush 60, 2) := by decide +kernel
theorem dX3_init_7 : decode cX3_init 7 = .ok (.newarray .int, 2) := by decide +kernel
theorem dX3_init_9 : decode cX3_init 9 = .ok (.putfield 9, 3) := by decide +kernel
theorem dX3_init_12 : decode cX3_init 12 = .ok (.aload_n 0, 1) := by decide +kernel
theorem dX3_init_13 : decode cX3_init 13 = .ok (.iconst 1, 1) := by decide +kernel
theorem dX3_init_14 : decode cX3_init 14 = .ok (.putfield 15, 3) := by decide +kernel
theorem dX3_init_17 : decode cX3_init 17 = .ok (.return_, 1) := by decide +kernel
theorem dX3_begin_0 : decode cX3_begin 0 = .ok (.aload_n 0, 1) := by decide +kernel
theorem dX3_begin_1 : decode cX3_begin 1 = .ok (.iload_n 1, 1) := by decide +kernel
theorem dX3_begin_2 : decode cX3_begin 2 = .ok (.putfield 15, 3) := by decide +kernel
theorem dX3_begin_5 : decode cX3_begin 5 = .ok (.aload_n 0, 1) := by decide +kernel
theorem dX3_begin_6 : decode cX3_begin 6 = .ok (.getfield 9, 3) := by decide +kernel
theorem dX3_begin_9 : decode cX3_begin 9 = .ok (.iconst 0, 1) := by decide +kernel
theorem dX3_begin_10 : decode cX3_begin 10 = .ok (.invokestatic 19, 3) := by decide +kernel
theorem dX3_begin_13 : decode cX3_begin 13 = .ok (.return_, 1) := by decide +kernel
theorem dX3_has_0 : decode cX3_has 0 = .ok (.iload_n 1, 1) := by decide +kernel
theorem dX3_has_1 : decode cX3_has 1 = .ok (.iconst 0, 1) := by decide +kernel
theorem dX3_has_2 : decode cX3_has 2 = .ok (.aload_n 0, 1) := by decide +kernel
theorem dX3_has_3 : decode cX3_has 3 = .ok (.getfield 15, 3) := by decide +kernel
theorem dX3_has_6 : decode cX3_has 6 = .ok (.iconst 1, 1) := by decide +kernel
theorem dX3_has_7 : decode cX3_has 7 = .ok (.isub, 1) := by decide +kernel
theorem dX3_has_8 : decode cX3_has 8 = .ok (.invokestatic 25, 3) := by decide +kernel
theorem dX3_has_11 : decode cX3_has 11 = .ok (.ireturn, 1) := by decide +kernel
theorem dX4_init_0 : decode cX4_init 0 = .ok (.aload_n 0, 1) := by decide +kernel
theorem dX4_init_1 : decode cX4_init 1 = .ok (.invokespecial 1, 3) := by decide +kernel
theorem dX4_init_4 : decode cX4_init 4 = .ok (.aload_n 0, 1) := by decide +kernel
theorem dX4_init_5 : decode cX4_init 5 = .ok (.bipush 10, 2) := by decide +kernel
theorem dX4_init_7 : decode cX4_init 7 = .ok (.newarray .int, 2) := by decide +kernel
theorem dX4_init_9 : decode cX4_init 9 = .ok (.dup, 1) := by decide +kernel
theorem dX4_init_10 : decode cX4_init 10 = .ok (.iconst 0, 1) := by decide +kernel
theorem dX4_init_11 : decode cX4_init 11 = .ok (.iconst 1, 1) := by decide +kernel
theorem dX4_init_12 : decode cX4_init 12 = .ok (.iastore, 1) := by decide +kernel
theorem dX4_init_13 : decode cX4_init 13 = .ok (.dup, 1) := by decide +kernel
theorem dX4_init_14 : decode cX4_init 14 = .ok (.iconst 1, 1) := by decide +kernel
theorem dX4_init_15 : decode cX4_init 15 = .ok (.iconst 2, 1) := by decide +kernel
theorem dX4_init_16 : decode cX4_init 16 = .ok (.iastore, 1) := by decide +kernel
theorem dX4_init_17 : decode cX4_init 17 = .ok (.dup, 1) := by decide +kernel
theorem dX4_init_18 : decode cX4_init 18 = .ok (.iconst 2, 1) := by decide +kernel
theorem dX4_init_19 : decode cX4_init 19 = .ok (.iconst 5, 1) := by decide +kernel
theorem dX4_init_20 : decode cX4_init 20 = .ok (.iastore, 1) := by decide +kernel
theorem dX4_init_21 : decode cX4_init 21 = .ok (.dup, 1) := by decide +kernel
theorem dX4_init_22 : decode cX4_init 22 = .ok (.iconst 3, 1) := by decide +kernel
theorem dX4_init_23 : decode cX4_init 23 = .ok (.iconst 1, 1) := by decide +kernel
theorem dX4_init_24 : decode cX4_init 24 = .ok (.iastore, 1) := by decide +kernel
theorem dX4_init_25 : decode cX4_init 25 = .ok (.dup, 1) := by decide +kernel
theorem dX4_init_26 : decode cX4_init 26 = .ok (.iconst 4, 1) := by decide +kernel
theorem dX4_init_27 : decode cX4_init 27 = .ok (.iconst 2, 1) := by decide +kernel
theorem dX4_init_28 : decode cX4_init 28 = .ok (.iastore, 1) := by decide +kernel
theorem dX4_init_29 : decode cX4_init 29 = .ok (.dup, 1) := by decide +kernel
theorem dX4_init_30 : decode cX4_init 30 = .ok (.iconst 5, 1) := by decide +kernel
theorem dX4_init_31 : decode cX4_init 31 = .ok (.iconst 4, 1) := by decide +kernel
theorem dX4_init_32 : decode cX4_init 32 = .ok (.iastore, 1) := by decide +kernel
theorem dX4_init_33 : decode cX4_init 33 = .ok (.dup, 1) := by decide +kernel
theorem dX4_init_34 : decode cX4_init 34 = .ok (.bipush 6, 2) := by decide +kernel
theorem dX4_init_36 : decode cX4_init 36 = .ok (.iconst 3, 1) := by decide +kernel
theorem dX4_init_37 : decode cX4_init 37 = .ok (.iastore, 1) := by decide +kernel
theorem dX4_init_38 : decode cX4_init 38 = .ok (.dup, 1) := by decide +kernel
theorem dX4_init_39 : decode cX4_init 39 = .ok (.bipush 7, 2) := by decide +kernel
theorem dX4_init_41 : decode cX4_init 41 = .ok (.bipush 12, 2) := by decide +kernel
theorem dX4_init_43 : decode cX4_init 43 = .ok (.iastore, 1) := by decide +kernel
theorem dX4_init_44 : decode cX4_init 44 = .ok (.dup, 1) := by decide +kernel
theorem dX4_init_45 : decode cX4_init 45 = .ok (.bipush 8, 2) := by decide +kernel
theorem dX4_init_47 : decode cX4_init 47 = .ok (.bipush 6, 2) := by decide +kernel
theorem dX4_init_49 : decode cX4_init 49 = .ok (.iastore, 1) := by decide +kernel
theorem dX4_init_50 : decode cX4_init 50 = .ok (.dup, 1) := by decide +kernel
theorem dX4_init_51 : decode cX4_init 51 = .ok (.bipush 9, 2) := by decide +kernel
theorem dX4_init_53 : decode cX4_init 53 = .ok (.iconst 4, 1) := by decide +kernel
theorem dX4_init_54 : decode cX4_init 54 = .ok (.iastore, 1) := by decide +kernel
theorem dX4_init_55 : decode cX4_init 55 = .ok (.putfield 7, 3) := by decide +kernel
theorem dX4_init_58 : decode cX4_init 58 = .ok (.aload_n 0, 1) := by decide +kernel
theorem dX4_init_59 : decode cX4_init 59 = .ok (.iconst 4, 1) := by decide +kernel
theorem dX4_init_60 : decode cX4_init 60 = .ok (.newarray .int, 2) := by decide +kernel
theorem dX4_init_62 : decode cX4_init 62 = .ok (.dup, 1) := by decide +kernel
theorem dX4_init_63 : decode cX4_init 63 = .ok (.iconst 0, 1) := by decide +kernel
theorem dX4_init_64 : decode cX4_init 64 = .ok (.iconst 0, 1) := by decide +kernel
theorem dX4_init_65 : decode cX4_init 65 = .ok (.iastore, 1) := by decide +kernel
theorem dX4_init_66 : decode cX4_init 66 = .ok (.dup, 1) := by decide +kernel
theorem dX4_init_67 : decode cX4_init 67 = .ok (.iconst 1, 1) := by decide +kernel
theorem dX4_init_68 : decode cX4_init 68 = .ok (.bipush 18, 2) := by decide +kernel
theorem dX4_init_70 : decode cX4_init 70 = .ok (.iastore, 1) := by decide +kernel
theorem dX4_init_71 : decode cX4_init 71 = .ok (.dup, 1) := by decide +kernel
theorem dX4_init_72 : decode cX4_init 72 = .ok (.iconst 2, 1) := by decide +kernel
theorem dX4_init_73 : decode cX4_init 73 = .ok (.bipush 13, 2) := by decide +kernel
theorem dX4_init_75 : decode cX4_init 75 = .ok (.iastore, 1) := by decide +kernel
theorem dX4_init_76 : decode cX4_init 76 = .ok (.dup, 1) := by decide +kernel
theorem dX4_init_77 : decode cX4_init 77 = .ok (.iconst 3, 1) := by decide +kernel
theorem dX4_init_78 : decode cX4_init 78 = .ok (.bipush 8, 2) := by decide +kernel
theorem dX4_init_80 : decode cX4_init 80 = .ok (.iastore, 1) := by decide +kernel
theorem dX4_init_81 : decode cX4_init 81 = .ok (.putfield 13, 3) := by decide +kernel
theorem dX4_init_84 : decode cX4_init 84 = .ok (.aload_n 0, 1) := by decide +kernel
theorem dX4_init_85 : decode cX4_init 85 = .ok (.iconst 3, 1) := by decide +kernel
theorem dX4_init_86 : decode cX4_init 86 = .ok (.putfield 16, 3) := by decide +kernel
theorem dX4_init_89 : decode cX4_init 89 = .ok (.return_, 1) := by decide +kernel
theorem dX5_init_0 : decode cX5_init 0 = .ok (.aload_n 0, 1) := by decide +kernel
theorem dX5_init_1 : decode cX5_init 1 = .ok (.invokespecial 5, 3) := by decide +kernel
theorem dX5_init_4 : decode cX5_init 4 = .ok (.aload_n 0, 1) := by decide +kernel
theorem dX5_init_5 : decode cX5_init 5 = .ok (.bipush 60, 2) := by decide +kernel
theorem dX5_init_7 : decode cX5_init 7 = .ok (.newarray .int, 2) := by decide +kernel
theorem dX5_init_9 : decode cX5_init 9 = .ok (.putfield 11, 3) := by decide +kernel
theorem dX5_init_12 : decode cX5_init 12 = .ok (.aload_n 0, 1) := by decide +kernel
theorem dX5_init_13 : decode cX5_init 13 = .ok (.bipush 60, 2) := by decide +kernel
theorem dX5_init_15 : decode cX5_init 15 = .ok (.newarray .int, 2) := by decide +kernel
theorem dX5_init_17 : decode cX5_init 17 = .ok (.putfield 15, 3) := by decide +kernel
theorem dX5_init_20 : decode cX5_init 20 = .ok (.aload_n 0, 1) := by decide +kernel
theorem dX5_init_21 : decode cX5_init 21 = .ok (.iconst 0, 1) := by decide +kernel
theorem dX5_init_22 : decode cX5_init 22 = .ok (.putfield 18, 3) := by decide +kernel
theorem dX5_init_25 : decode cX5_init 25 = .ok (.aload_n 0, 1) := by decide +kernel
theorem dX5_init_26 : decode cX5_init 26 = .ok (.iconst 0, 1) := by decide +kernel
theorem dX5_init_27 : decode cX5_init 27 = .ok (.putfield 22, 3) := by decide +kernel
theorem dX5_init_30 : decode cX5_init 30 = .ok (.aload_n 0, 1) := by decide +kernel
theorem dX5_init_31 : decode cX5_init 31 = .ok (.iconst 0, 1) := by decide +kernel
theorem dX5_init_32 : decode cX5_init 32 = .ok (.putfield 25, 3) := by decide +kernel
theorem dX5_init_35 : decode cX5_init 35 = .ok (.aload_n 0, 1) := by decide +kernel
theorem dX5_init_36 : decode cX5_init 36 = .ok (.bipush 61, 2) := by decide +kernel
theorem dX5_init_38 : decode cX5_init 38 = .ok (.newarray .int, 2) := by decide +kernel
theorem dX5_init_40 : decode cX5_init 40 = .ok (.putfield 28, 3) := by decide +kernel
theorem dX5_init_43 : decode cX5_init 43 = .ok (.aload_n 0, 1) := by decide +kernel
theorem dX5_init_44 : decode cX5_init 44 = .ok (.bipush 60, 2) := by decide +kernel
theorem dX5_init_46 : decode cX5_init 46 = .ok (.newarray .int, 2) := by decide +kernel
theorem dX5_init_48 : decode cX5_init 48 = .ok (.putfield 31, 3) := by decide +kernel
theorem dX5_init_51 : decode cX5_init 51 = .ok (.aload_n 0, 1) := by decide +kernel
theorem dX5_init_52 : decode cX5_init 52 = .ok (.sipush 1059, 3) := by decide +kernel
theorem dX5_init_55 : decode cX5_init 55 = .ok (.newarray .int, 2) := by decide +kernel
theorem dX5_init_57 : decode cX5_init 57 = .ok (.putfield 34, 3) := by decide +kernel
theorem dX5_init_60 : decode cX5_init 60 = .ok (.aload_n 0, 1) := by decide +kernel
theorem dX5_init_61 : decode cX5_init 61 = .ok (.aload_n 1, 1) := by decide +kernel
theorem dX5_init_62 : decode cX5_init 62 = .ok (.putfield 37, 3) := by decide +kernel
theorem dX5_init_65 : decode cX5_init 65 = .ok (.aload_n 0, 1) := by decide +kernel
theorem dX5_init_66 : decode cX5_init 66 = .ok (.aload_n 2, 1) := by decide +kernel
theorem dX5_init_67 : decode cX5_init 67 = .ok (.putfield 41, 3) := by decide +kernel
theorem dX5_init_70 : decode cX5_init 70 = .ok (.return_, 1) := by decide +kernel
theorem dX5_explain_0 : decode cX5_explain 0 = .ok (.aload_n 0, 1) := by decide +kernel
theorem dX5_explain_1 : decode cX5_explain 1 = .ok (.getfield 28, 3) := by decide +kernel
theorem dX5_explain_4 : decode cX5_explain 4 = .ok (.aload_n 0, 1) := by decide +kernel
theorem dX5_explain_5 : decode cX5_explain 5 = .ok (.getfield 37, 3) := by decide +kernel
theorem dX5_explain_8 : decode cX5_explain 8 = .ok (.getfield 45, 3) := by decide +kernel
theorem dX5_explain_11 : decode cX5_explain 11 = .ok (.iconst 0, 1) := by decide +kernel
theorem dX5_explain_12 : decode cX5_explain 12 = .ok (.iastore, 1) := by decide +kernel
theorem dX5_explain_13 : decode cX5_explain 13 = .ok (.aload_n 0, 1) := by decide +kernel
theorem dX5_explain_14 : decode cX5_explain 14 = .ok (.getfield 37, 3) := by decide +kernel
theorem dX5_explain_17 : decode cX5_explain 17 = .ok (.getfield 45, 3) := by decide +kernel
theorem dX5_explain_20 : decode cX5_explain 20 = .ok (.iconst 1, 1) := by decide +kernel
theorem dX5_explain_21 : decode cX5_explain 21 = .ok (.isub, 1) := by decide +kernel
theorem dX5_explain_22 : decode cX5_explain 22 = .ok (.istore_n 1, 1) := by decide +kernel
theorem dX5_explain_23 : decode cX5_explain 23 = .ok (.iload_n 1, 1) := by decide +kernel
theorem dX5_explain_24 : decode cX5_explain 24 = .ok (.ifCond .lt 26, 3) := by decide +kernel
theorem dX5_explain_27 : decode cX5_explain 27 = .ok (.aload_n 0, 1) := by decide +kernel
theorem dX5_explain_28 : decode cX5_explain 28 = .ok (.iload_n 1, 1) := by decide +kernel
theorem dX5_explain_29 : decode cX5_explain 29 = .ok (.invokevirtual 50, 3) := by decide +kernel
theorem dX5_explain_32 : decode cX5_explain 32 = .ok (.aload_n 0, 1) := by decide +kernel
theorem dX5_explain_33 : decode cX5_explain 33 = .ok (.iload_n 1, 1) := by decide +kernel
theorem dX5_explain_34 : decode cX5_explain 34 = .ok (.aload_n 0, 1) := by decide +kernel
theorem dX5_explain_35 : decode cX5_explain 35 = .ok (.getfield 37, 3) := by decide +kernel
theorem dX5_explain_38 : decode cX5_explain 38 = .ok (.getfield 45, 3) := by decide +kernel
theorem dX5_explain_41 : decode cX5_explain 41 = .ok (.invokevirtual 54, 3) := by decide +kernel
theorem dX5_explain_44 : decode cX5_explain 44 = .ok (.iinc 1 (-1), 3) := by decide +kernel
theorem dX5_explain_47 : decode cX5_explain 47 = .ok (.goto (-24), 3) := by decide +kernel
theorem dX5_explain_50 : decode cX5_explain 50 = .ok (.aload_n 0, 1) := by decide +kernel
theorem dX5_explain_51 : decode cX5_explain 51 = .ok (.aload_n 0, 1) := by decide +kernel
theorem dX5_explain_52 : decode cX5_explain 52 = .ok (.getfield 28, 3) := by decide +kernel
theorem dX5_explain_55 : decode cX5_explain 55 = .ok (.iconst 0, 1) := by decide +kernel
theorem dX5_explain_56 : decode cX5_explain 56 = .ok (.iaload, 1) := by decide +kernel
theorem dX5_explain_57 : decode cX5_explain 57 = .ok (.bipush 64, 2) := by decide +kernel
theorem dX5_explain_59 : decode cX5_explain 59 = .ok (.idiv, 1) := by decide +kernel
theorem dX5_explain_60 : decode cX5_explain 60 = .ok (.putfield 18, 3) := by decide +kernel
theorem dX5_explain_63 : decode cX5_explain 63 = .ok (.aload_n 0, 1) := by decide +kernel
theorem dX5_explain_64 : decode cX5_explain 64 = .ok (.aload_n 0, 1) := by decide +kernel
theorem dX5_explain_65 : decode cX5_explain 65 = .ok (.getfield 28, 3) := by decide +kernel
theorem dX5_explain_68 : decode cX5_explain 68 = .ok (.iconst 0, 1) := by decide +kernel
theorem dX5_explain_69 : decode cX5_explain 69 = .ok (.iaload, 1) := by decide +kernel
theorem dX5_explain_70 : decode cX5_explain 70 = .ok (.bipush 64, 2) := by decide +kernel
theorem dX5_explain_72 : decode cX5_explain 72 = .ok (.irem, 1) := by decide +kernel
theorem dX5_explain_73 : decode cX5_explain 73 = .ok (.putfield 22, 3) := by decide +kernel
theorem dX5_explain_76 : decode cX5_explain 76 = .ok (.aload_n 0, 1) := by decide +kernel
theorem dX5_explain_77 : decode cX5_explain 77 = .ok (.invokevirtual 58, 3) := by decide +kernel
theorem dX5_explain_80 : decode cX5_explain 80 = .ok (.return_, 1) := by decide +kernel
theorem dX5_findFirstSpan_0 : decode cX5_findFirstSpan 0 = .ok (.aload_n 0, 1) := by decide +kernel
theorem dX5_findFirstSpan_1 : decode cX5_findFirstSpan 1 = .ok (.getfield 41, 3) := by decide +kernel
theorem dX5_findFirstSpan_4 : decode cX5_findFirstSpan 4 = .ok (.getfield 61, 3) := by decide +kernel
theorem dX5_findFirstSpan_7 : decode cX5_findFirstSpan 7 = .ok (.bipush 8, 2) := by decide +kernel
theorem dX5_findFirstSpan_9 : decode cX5_findFirstSpan 9 = .ok (.iaload, 1) := by decide +kernel
theorem dX5_findFirstSpan_10 : decode cX5_findFirstSpan 10 = .ok (.bipush 64, 2) := by decide +kernel
theorem dX5_findFirstSpan_12 : decode cX5_findFirstSpan 12 = .ok (.imul, 1) := by decide +kernel
theorem dX5_findFirstSpan_13 : decode cX5_findFirstSpan 13 = .ok (.iconst 1, 1) := by decide +kernel
theorem dX5_findFirstSpan_14 : decode cX5_findFirstSpan 14 = .ok (.iadd, 1) := by decide +kernel
theorem dX5_findFirstSpan_15 : decode cX5_findFirstSpan 15 = .ok (.istore_n 2, 1) := by decide +kernel
theorem dX5_findFirstSpan_16 : decode cX5_findFirstSpan 16 = .ok (.aload_n 0, 1) := by decide +kernel
theorem dX5_findFirstSpan_17 : decode cX5_findFirstSpan 17 = .ok (.getfield 41, 3) := by decide +kernel
theorem dX5_findFirstSpan_20 : decode cX5_findFirstSpan 20 = .ok (.getfield 61, 3) := by decide +kernel
theorem dX5_findFirstSpan_23 : decode cX5_findFirstSpan 23 = .ok (.bipush 9, 2) := by decide +kernel
theorem dX5_findFirstSpan_25 : decode cX5_findFirstSpan 25 = .ok (.iaload, 1) := by decide +kernel
theorem dX5_findFirstSpan_26 : decode cX5_findFirstSpan 26 = .ok (.bipush 64, 2) := by decide +kernel
theorem dX5_findFirstSpan_28 : decode cX5_findFirstSpan 28 = .ok (.imul, 1) := by decide +kernel
theorem dX5_findFirstSpan_29 : decode cX5_findFirstSpan 29 = .ok (.istore_n 3, 1) := by decide +kernel
theorem dX5_findFirstSpan_30 : decode cX5_findFirstSpan 30 = .ok (.iconst 0, 1) := by decide +kernel
theorem dX5_findFirstSpan_31 : decode cX5_findFirstSpan 31 = .ok (.istore 4, 2) := by decide +kernel
theorem dX5_findFirstSpan_33 : decode cX5_findFirstSpan 33 = .ok (.iconst 0, 1) := by decide +kernel
theorem dX5_findFirstSpan_34 : decode cX5_findFirstSpan 34 = .ok (.istore 5, 2) := by decide +kernel
theorem dX5_findFirstSpan_36 : decode cX5_findFirstSpan 36 = .ok (.aload_n 0, 1) := by decide +kernel
theorem dX5_findFirstSpan_37 : decode cX5_findFirstSpan 37 = .ok (.getfield 28, 3) := by decide +kernel
theorem dX5_findFirstSpan_40 : decode cX5_findFirstSpan 40 = .ok (.iload_n 1, 1) := by decide +kernel
theorem dX5_findFirstSpan_41 : decode cX5_findFirstSpan 41 = .ok (.ldc 66, 2) := by decide +kernel
theorem dX5_findFirstSpan_43 : decode cX5_findFirstSpan 43 = .ok (.iastore, 1) := by decide +kernel
theorem dX5_findFirstSpan_44 : decode cX5_findFirstSpan 44 = .ok (.iload_n 1, 1) := by decide +kernel
theorem dX5_findFirstSpan_45 : decode cX5_findFirstSpan 45 = .ok (.istore 6, 2) := by decide +kernel
theorem dX5_findFirstSpan_47 : decode cX5_findFirstSpan 47 = .ok (.iload 6, 2) := by decide +kernel
theorem dX5_findFirstSpan_49 : decode cX5_findFirstSpan 49 = .ok (.aload_n 0, 1) := by decide +kernel
theorem dX5_findFirstSpan_50 : decode cX5_findFirstSpan 50 = .ok (.getfield 37, 3) := by decide +kernel
theorem dX5_findFirstSpan_53 : decode cX5_findFirstSpan 53 = .ok (.getfield 45, 3) := by decide +kernel
theorem dX5_findFirstSpan_56 : decode cX5_findFirstSpan 56 = .ok (.if_icmp .ge 88, 3) := by decide +kernel
theorem dX5_findFirstSpan_59 : decode cX5_findFirstSpan 59 = .ok (.aload_n 0, 1) := by decide +kernel
theorem dX5_findFirstSpan_60 : decode cX5_findFirstSpan 60 = .ok (.getfield 37, 3) := by decide +kernel
theorem dX5_findFirstSpan_63 : decode cX5_findFirstSpan 63 = .ok (.getfield 67, 3) := by decide +kernel
theorem dX5_findFirstSpan_66 : decode cX5_findFirstSpan 66 = .ok (.iload 6, 2) := by decide +kernel
theorem dX5_findFirstSpan_68 : decode cX5_findFirstSpan 68 = .ok (.iaload, 1) := by decide +kernel
theorem dX5_findFirstSpan_69 : decode cX5_findFirstSpan 69 = .ok (.ifCond .le 19, 3) := by decide +kernel
theorem dX5_findFirstSpan_72 : decode cX5_findFirstSpan 72 = .ok (.iinc 4 1, 3) := by decide +kernel
theorem dX5_findFirstSpan_75 : decode cX5_findFirstSpan 75 = .ok (.iload 5, 2) := by decide +kernel
theorem dX5_findFirstSpan_77 : decode cX5_findFirstSpan 77 = .ok (.aload_n 0, 1) := by decide +kernel
theorem dX5_findFirstSpan_78 : decode cX5_findFirstSpan 78 = .ok (.iload 6, 2) := by decide +kernel
theorem dX5_findFirstSpan_80 : decode cX5_findFirstSpan 80 = .ok (.invokevirtual 70, 3) := by decide +kernel
theorem dX5_findFirstSpan_83 : decode cX5_findFirstSpan 83 = .ok (.invokestatic 74, 3) := by decide +kernel
theorem dX5_findFirstSpan_86 : decode cX5_findFirstSpan 86 = .ok (.istore 5, 2) := by decide +kernel
theorem dX5_findFirstSpan_88 : decode cX5_findFirstSpan 88 = .ok (.iload_n 2, 1) := by decide +kernel
theorem dX5_findFirstSpan_89 : decode cX5_findFirstSpan 89 = .ok (.iload_n 3, 1) := by decide +kernel
theorem dX5_findFirstSpan_90 : decode cX5_findFirstSpan 90 = .ok (.iload 4, 2) := by decide +kernel
theorem dX5_findFirstSpan_92 : decode cX5_findFirstSpan 92 = .ok (.iload 5, 2) := by decide +kernel
theorem dX5_findFirstSpan_94 : decode cX5_findFirstSpan 94 = .ok (.isub, 1) := by decide +kernel
theorem dX5_findFirstSpan_95 : decode cX5_findFirstSpan 95 = .ok (.imul, 1) := by decide +kernel
theorem dX5_findFirstSpan_96 : decode cX5_findFirstSpan 96 = .ok (.iadd, 1) := by decide +kernel
theorem dX5_findFirstSpan_97 : decode cX5_findFirstSpan 97 = .ok (.aload_n 0, 1) := by decide +kernel
theorem dX5_findFirstSpan_98 : decode cX5_findFirstSpan 98 = .ok (.getfield 28, 3) := by decide +kernel
theorem dX5_findFirstSpan_101 : decode cX5_findFirstSpan 101 = .ok (.iload 6, 2) := by decide +kernel
theorem dX5_findFirstSpan_103 : decode cX5_findFirstSpan 103 = .ok (.iconst 1, 1) := by decide +kernel
theorem dX5_findFirstSpan_104 : decode cX5_findFirstSpan 104 = .ok (.iadd, 1) := by decide +kernel
theorem dX5_findFirstSpan_105 : decode cX5_findFirstSpan 105 = .ok (.iaload, 1) := by decide +kernel
theorem dX5_findFirstSpan_106 : decode cX5_findFirstSpan 106 = .ok (.iadd, 1) := by decide +kernel
theorem dX5_findFirstSpan_107 : decode cX5_findFirstSpan 107 = .ok (.istore 7, 2) := by decide +kernel
theorem dX5_findFirstSpan_109 : decode cX5_findFirstSpan 109 = .ok (.iload 7, 2) := by decide +kernel
theorem dX5_findFirstSpan_111 : decode cX5_findFirstSpan 111 = .ok (.aload_n 0, 1) := by decide +kernel
theorem dX5_findFirstSpan_112 : decode cX5_findFirstSpan 112 = .ok (.getfield 28, 3) := by decide +kernel
theorem dX5_findFirstSpan_115 : decode cX5_findFirstSpan 115 = .ok (.iload_n 1, 1) := by decide +kernel
theorem dX5_findFirstSpan_116 : decode cX5_findFirstSpan 116 = .ok (.iaload, 1) := by decide +kernel
theorem dX5_findFirstSpan_117 : decode cX5_findFirstSpan 117 = .ok (.if_icmp .gt 21, 3) := by decide +kernel
theorem dX5_findFirstSpan_120 : decode cX5_findFirstSpan 120 = .ok (.aload_n 0, 1) := by decide +kernel
theorem dX5_findFirstSpan_121 : decode cX5_findFirstSpan 121 = .ok (.getfield 28, 3) := by decide +kernel
theorem dX5_findFirstSpan_124 : decode cX5_findFirstSpan 124 = .ok (.iload_n 1, 1) := by decide +kernel
theorem dX5_findFirstSpan_125 : decode cX5_findFirstSpan 125 = .ok (.iload 7, 2) := by decide +kernel
theorem dX5_findFirstSpan_127 : decode cX5_findFirstSpan 127 = .ok (.iastore, 1) := by decide +kernel
theorem dX5_findFirstSpan_128 : decode cX5_findFirstSpan 128 = .ok (.aload_n 0, 1) := by decide +kernel
theorem dX5_findFirstSpan_129 : decode cX5_findFirstSpan 129 = .ok (.getfield 31, 3) := by decide +kernel
theorem dX5_findFirstSpan_132 : decode cX5_findFirstSpan 132 = .ok (.iload_n 1, 1) := by decide +kernel
theorem dX5_findFirstSpan_133 : decode cX5_findFirstSpan 133 = .ok (.iload 6, 2) := by decide +kernel
theorem dX5_findFirstSpan_135 : decode cX5_findFirstSpan 135 = .ok (.iconst 1, 1) := by decide +kernel
theorem dX5_findFirstSpan_136 : decode cX5_findFirstSpan 136 = .ok (.iadd, 1) := by decide +kernel
theorem dX5_findFirstSpan_137 : decode cX5_findFirstSpan 137 = .ok (.iastore, 1) := by decide +kernel
theorem dX5_findFirstSpan_138 : decode cX5_findFirstSpan 138 = .ok (.iinc 6 1, 3) := by decide +kernel
theorem dX5_findFirstSpan_141 : decode cX5_findFirstSpan 141 = .ok (.goto (-94), 3) := by decide +kernel
theorem dX5_findFirstSpan_144 : decode cX5_findFirstSpan 144 = .ok (.return_, 1) := by decide +kernel
theorem dX5_shiftPlace_0 : decode cX5_shiftPlace 0 = .ok (.aload_n 0, 1) := by decide +kernel
theorem dX5_shiftPlace_1 : decode cX5_shiftPlace 1 = .ok (.getfield 37, 3) := by decide +kernel
theorem dX5_shiftPlace_4 : decode cX5_shiftPlace 4 = .ok (.getfield 67, 3) := by decide +kernel
theorem dX5_shiftPlace_7 : decode cX5_shiftPlace 7 = .ok (.iload_n 1, 1) := by decide +kernel
theorem dX5_shiftPlace_8 : decode cX5_shiftPlace 8 = .ok (.iaload, 1) := by decide +kernel
theorem dX5_shiftPlace_9 : decode cX5_shiftPlace 9 = .ok (.iload_n 1, 1) := by decide +kernel
theorem dX5_shiftPlace_10 : decode cX5_shiftPlace 10 = .ok (.isub, 1) := by decide +kernel
theorem dX5_shiftPlace_11 : decode cX5_shiftPlace 11 = .ok (.bipush 59, 2) := by decide +kernel
theorem dX5_shiftPlace_13 : decode cX5_shiftPlace 13 = .ok (.iadd, 1) := by decide +kernel
theorem dX5_shiftPlace_14 : decode cX5_shiftPlace 14 = .ok (.ireturn, 1) := by decide +kernel
theorem dX5_addTime_0 : decode cX5_addTime 0 = .ok (.aload_n 0, 1) := by decide +kernel
theorem dX5_addTime_1 : decode cX5_addTime 1 = .ok (.iload_n 1, 1) := by decide +kernel
theorem dX5_addTime_2 : decode cX5_addTime 2 = .ok (.invokevirtual 80, 3) := by decide +kernel
theorem dX5_addTime_5 : decode cX5_addTime 5 = .ok (.istore_n 2, 1) := by decide +kernel
theorem dX5_addTime_6 : decode cX5_addTime 6 = .ok (.aload_n 0, 1) := by decide +kernel
theorem dX5_addTime_7 : decode cX5_addTime 7 = .ok (.getfield 34, 3) := by decide +kernel
theorem dX5_addTime_10 : decode cX5_addTime 10 = .ok (.iload_n 2, 1) := by decide +kernel
theorem dX5_addTime_11 : decode cX5_addTime 11 = .ok (.dup2, 1) := by decide +kernel
theorem dX5_addTime_12 : decode cX5_addTime 12 = .ok (.iaload, 1) := by decide +kernel
theorem dX5_addTime_13 : decode cX5_addTime 13 = .ok (.iconst 1, 1) := by decide +kernel
theorem dX5_addTime_14 : decode cX5_addTime 14 = .ok (.iadd, 1) := by decide +kernel
theorem dX5_addTime_15 : decode cX5_addTime 15 = .ok (.iastore, 1) := by decide +kernel
theorem dX5_addTime_16 : decode cX5_addTime 16 = .ok (.aload_n 0, 1) := by decide +kernel
theorem dX5_addTime_17 : decode cX5_addTime 17 = .ok (.getfield 34, 3) := by decide +kernel
theorem dX5_addTime_20 : decode cX5_addTime 20 = .ok (.iload_n 2, 1) := by decide +kernel
theorem dX5_addTime_21 : decode cX5_addTime 21 = .ok (.iaload, 1) := by decide +kernel
theorem dX5_addTime_22 : decode cX5_addTime 22 = .ok (.ireturn, 1) := by decide +kernel
theorem dX5_forgetTimes_0 : decode cX5_forgetTimes 0 = .ok (.iload_n 1, 1) := by decide +kernel
theorem dX5_forgetTimes_1 : decode cX5_forgetTimes 1 = .ok (.istore_n 3, 1) := by decide +kernel
theorem dX5_forgetTimes_2 : decode cX5_forgetTimes 2 = .ok (.iload_n 3, 1) := by decide +kernel
theorem dX5_forgetTimes_3 : decode cX5_forgetTimes 3 = .ok (.iload_n 2, 1) := by decide +kernel
theorem dX5_forgetTimes_4 : decode cX5_forgetTimes 4 = .ok (.if_icmp .ge 20, 3) := by decide +kernel
theorem dX5_forgetTimes_7 : decode cX5_forgetTimes 7 = .ok (.aload_n 0, 1) := by decide +kernel
theorem dX5_forgetTimes_8 : decode cX5_forgetTimes 8 = .ok (.getfield 34, 3) := by decide +kernel
theorem dX5_forgetTimes_11 : decode cX5_forgetTimes 11 = .ok (.aload_n 0, 1) := by decide +kernel
theorem dX5_forgetTimes_12 : decode cX5_forgetTimes 12 = .ok (.iload_n 3, 1) := by decide +kernel
theorem dX5_forgetTimes_13 : decode cX5_forgetTimes 13 = .ok (.invokevirtual 80, 3) := by decide +kernel
theorem dX5_forgetTimes_16 : decode cX5_forgetTimes 16 = .ok (.iconst 0, 1) := by decide +kernel
theorem dX5_forgetTimes_17 : decode cX5_forgetTimes 17 = .ok (.iastore, 1) := by decide +kernel
theorem dX5_forgetTimes_18 : decode cX5_forgetTimes 18 = .ok (.iinc 3 1, 3) := by decide +kernel
theorem dX5_forgetTimes_21 : decode cX5_forgetTimes 21 = .ok (.goto (-19), 3) := by decide +kernel
theorem dX5_forgetTimes_24 : decode cX5_forgetTimes 24 = .ok (.return_, 1) := by decide +kernel
theorem dX5_tellSpans_0 : decode cX5_tellSpans 0 = .ok (.aload_n 0, 1) := by decide +kernel
theorem dX5_tellSpans_1 : decode cX5_tellSpans 1 = .ok (.iconst 0, 1) := by decide +kernel
theorem dX5_tellSpans_2 : decode cX5_tellSpans 2 = .ok (.putfield 25, 3) := by decide +kernel
theorem dX5_tellSpans_5 : decode cX5_tellSpans 5 = .ok (.iconst 0, 1) := by decide +kernel
theorem dX5_tellSpans_6 : decode cX5_tellSpans 6 = .ok (.istore_n 1, 1) := by decide +kernel
theorem dX5_tellSpans_7 : decode cX5_tellSpans 7 = .ok (.iconst 0, 1) := by decide +kernel
theorem dX5_tellSpans_8 : decode cX5_tellSpans 8 = .ok (.istore_n 2, 1) := by decide +kernel
theorem dX5_tellSpans_9 : decode cX5_tellSpans 9 = .ok (.iconst 0, 1) := by decide +kernel
theorem dX5_tellSpans_10 : decode cX5_tellSpans 10 = .ok (.istore_n 3, 1) := by decide +kernel
theorem dX5_tellSpans_11 : decode cX5_tellSpans 11 = .ok (.iconst 0, 1) := by decide +kernel
theorem dX5_tellSpans_12 : decode cX5_tellSpans 12 = .ok (.istore 4, 2) := by decide +kernel
theorem dX5_tellSpans_14 : decode cX5_tellSpans 14 = .ok (.iload 4, 2) := by decide +kernel
theorem dX5_tellSpans_16 : decode cX5_tellSpans 16 = .ok (.aload_n 0, 1) := by decide +kernel
theorem dX5_tellSpans_17 : decode cX5_tellSpans 17 = .ok (.getfield 37, 3) := by decide +kernel
theorem dX5_tellSpans_20 : decode cX5_tellSpans 20 = .ok (.getfield 45, 3) := by decide +kernel
theorem dX5_tellSpans_23 : decode cX5_tellSpans 23 = .ok (.if_icmp .ge 72, 3) := by decide +kernel
theorem dX5_tellSpans_26 : decode cX5_tellSpans 26 = .ok (.iload 4, 2) := by decide +kernel
theorem dX5_tellSpans_28 : decode cX5_tellSpans 28 = .ok (.iload_n 2, 1) := by decide +kernel
theorem dX5_tellSpans_29 : decode cX5_tellSpans 29 = .ok (.if_icmp .ne 21, 3) := by decide +kernel
theorem dX5_tellSpans_32 : decode cX5_tellSpans 32 = .ok (.iload 4, 2) := by decide +kernel
theorem dX5_tellSpans_34 : decode cX5_tellSpans 34 = .ok (.istore_n 1, 1) := by decide +kernel
theorem dX5_tellSpans_35 : decode cX5_tellSpans 35 = .ok (.aload_n 0, 1) := by decide +kernel
theorem dX5_tellSpans_36 : decode cX5_tellSpans 36 = .ok (.getfield 31, 3) := by decide +kernel
theorem dX5_tellSpans_39 : decode cX5_tellSpans 39 = .ok (.iload 4, 2) := by decide +kernel
theorem dX5_tellSpans_41 : decode cX5_tellSpans 41 = .ok (.iaload, 1) := by decide +kernel
theorem dX5_tellSpans_42 : decode cX5_tellSpans 42 = .ok (.istore_n 2, 1) := by decide +kernel
theorem dX5_tellSpans_43 : decode cX5_tellSpans 43 = .ok (.aload_n 0, 1) := by decide +kernel
theorem dX5_tellSpans_44 : decode cX5_tellSpans 44 = .ok (.iload_n 1, 1) := by decide +kernel
theorem dX5_tellSpans_45 : decode cX5_tellSpans 45 = .ok (.iload_n 2, 1) := by decide +kernel
theorem dX5_tellSpans_46 : decode cX5_tellSpans 46 = .ok (.invokevirtual 83, 3) := by decide +kernel
theorem dX5_tellSpans_49 : decode cX5_tellSpans 49 = .ok (.istore_n 3, 1) := by decide +kernel
theorem dX5_tellSpans_50 : decode cX5_tellSpans 50 = .ok (.aload_n 0, 1) := by decide +kernel
theorem dX5_tellSpans_51 : decode cX5_tellSpans 51 = .ok (.getfield 15, 3) := by decide +kernel
theorem dX5_tellSpans_54 : decode cX5_tellSpans 54 = .ok (.iload 4, 2) := by decide +kernel
theorem dX5_tellSpans_56 : decode cX5_tellSpans 56 = .ok (.iload_n 1, 1) := by decide +kernel
theorem dX5_tellSpans_57 : decode cX5_tellSpans 57 = .ok (.iastore, 1) := by decide +kernel
theorem dX5_tellSpans_58 : decode cX5_tellSpans 58 = .ok (.aload_n 0, 1) := by decide +kernel
theorem dX5_tellSpans_59 : decode cX5_tellSpans 59 = .ok (.getfield 11, 3) := by decide +kernel
theorem dX5_tellSpans_62 : decode cX5_tellSpans 62 = .ok (.iload 4, 2) := by decide +kernel
theorem dX5_tellSpans_64 : decode cX5_tellSpans 64 = .ok (.iload_n 3, 1) := by decide +kernel
theorem dX5_tellSpans_65 : decode cX5_tellSpans 65 = .ok (.iastore, 1) := by decide +kernel
theorem dX5_tellSpans_66 : decode cX5_tellSpans 66 = .ok (.aload_n 0, 1) := by decide +kernel
theorem dX5_tellSpans_67 : decode cX5_tellSpans 67 = .ok (.dup, 1) := by decide +kernel
theorem dX5_tellSpans_68 : decode cX5_tellSpans 68 = .ok (.getfield 25, 3) := by decide +kernel
theorem dX5_tellSpans_71 : decode cX5_tellSpans 71 = .ok (.aload_n 0, 1) := by decide +kernel
theorem dX5_tellSpans_72 : decode cX5_tellSpans 72 = .ok (.iload 4, 2) := by decide +kernel
theorem dX5_tellSpans_74 : decode cX5_tellSpans 74 = .ok (.invokevirtual 86, 3) := by decide +kernel
theorem dX5_tellSpans_77 : decode cX5_tellSpans 77 = .ok (.ifCond .eq 7, 3) := by decide +kernel
theorem dX5_tellSpans_80 : decode cX5_tellSpans 80 = .ok (.iconst 1, 1) := by decide +kernel
theorem dX5_tellSpans_81 : decode cX5_tellSpans 81 = .ok (.goto 4, 3) := by decide +kernel
theorem dX5_tellSpans_84 : decode cX5_tellSpans 84 = .ok (.iconst 0, 1) := by decide +kernel
theorem dX5_tellSpans_85 : decode cX5_tellSpans 85 = .ok (.iadd, 1) := by decide +kernel
theorem dX5_tellSpans_86 : decode cX5_tellSpans 86 = .ok (.putfield 25, 3) := by decide +kernel
theorem dX5_tellSpans_89 : decode cX5_tellSpans 89 = .ok (.iinc 4 1, 3) := by decide +kernel
theorem dX5_tellSpans_92 : decode cX5_tellSpans 92 = .ok (.goto (-78), 3) := by decide +kernel
theorem dX5_tellSpans_95 : decode cX5_tellSpans 95 = .ok (.return_, 1) := by decide +kernel
theorem dX5_bestShift_0 : decode cX5_bestShift 0 = .ok (.iconst 0, 1) := by decide +kernel
theorem dX5_bestShift_1 : decode cX5_bestShift 1 = .ok (.istore_n 3, 1) := by decide +kernel
theorem dX5_bestShift_2 : decode cX5_bestShift 2 = .ok (.iconst 0, 1) := by decide +kernel
theorem dX5_bestShift_3 : decode cX5_bestShift 3 = .ok (.istore 4, 2) := by decide +kernel
theorem dX5_bestShift_5 : decode cX5_bestShift 5 = .ok (.iload_n 1, 1) := by decide +kernel
theorem dX5_bestShift_6 : decode cX5_bestShift 6 = .ok (.istore 5, 2) := by decide +kernel
theorem dX5_bestShift_8 : decode cX5_bestShift 8 = .ok (.iload 5, 2) := by decide +kernel
theorem dX5_bestShift_10 : decode cX5_bestShift 10 = .ok (.iload_n 2, 1) := by decide +kernel
theorem dX5_bestShift_11 : decode cX5_bestShift 11 = .ok (.if_icmp .ge 72, 3) := by decide +kernel
theorem dX5_bestShift_14 : decode cX5_bestShift 14 = .ok (.aload_n 0, 1) := by decide +kernel
theorem dX5_bestShift_15 : decode cX5_bestShift 15 = .ok (.getfield 37, 3) := by decide +kernel
theorem dX5_bestShift_18 : decode cX5_bestShift 18 = .ok (.getfield 67, 3) := by decide +kernel
theorem dX5_bestShift_21 : decode cX5_bestShift 21 = .ok (.iload 5, 2) := by decide +kernel
theorem dX5_bestShift_23 : decode cX5_bestShift 23 = .ok (.iaload, 1) := by decide +kernel
theorem dX5_bestShift_24 : decode cX5_bestShift 24 = .ok (.ifCond .le 53, 3) := by decide +kernel
theorem dX5_bestShift_27 : decode cX5_bestShift 27 = .ok (.aload_n 0, 1) := by decide +kernel
theorem dX5_bestShift_28 : decode cX5_bestShift 28 = .ok (.iload 5, 2) := by decide +kernel
theorem dX5_bestShift_30 : decode cX5_bestShift 30 = .ok (.invokevirtual 70, 3) := by decide +kernel
theorem dX5_bestShift_33 : decode cX5_bestShift 33 = .ok (.istore 6, 2) := by decide +kernel
theorem dX5_bestShift_35 : decode cX5_bestShift 35 = .ok (.aload_n 0, 1) := by decide +kernel
theorem dX5_bestShift_36 : decode cX5_bestShift 36 = .ok (.getfield 37, 3) := by decide +kernel
theorem dX5_bestShift_39 : decode cX5_bestShift 39 = .ok (.getfield 67, 3) := by decide +kernel
theorem dX5_bestShift_42 : decode cX5_bestShift 42 = .ok (.iload 5, 2) := by decide +kernel
theorem dX5_bestShift_44 : decode cX5_bestShift 44 = .ok (.iaload, 1) := by decide +kernel
theorem dX5_bestShift_45 : decode cX5_bestShift 45 = .ok (.iload 5, 2) := by decide +kernel
theorem dX5_bestShift_47 : decode cX5_bestShift 47 = .ok (.isub, 1) := by decide +kernel
theorem dX5_bestShift_48 : decode cX5_bestShift 48 = .ok (.istore 7, 2) := by decide +kernel
theorem dX5_bestShift_50 : decode cX5_bestShift 50 = .ok (.iload 6, 2) := by decide +kernel
theorem dX5_bestShift_52 : decode cX5_bestShift 52 = .ok (.iload 4, 2) := by decide +kernel
theorem dX5_bestShift_54 : decode cX5_bestShift 54 = .ok (.if_icmp .gt 16, 3) := by decide +kernel
theorem dX5_bestShift_57 : decode cX5_bestShift 57 = .ok (.iload 6, 2) := by decide +kernel
theorem dX5_bestShift_59 : decode cX5_bestShift 59 = .ok (.iload 4, 2) := by decide +kernel
theorem dX5_bestShift_61 : decode cX5_bestShift 61 = .ok (.if_icmp .ne 16, 3) := by decide +kernel
theorem dX5_bestShift_64 : decode cX5_bestShift 64 = .ok (.iload 7, 2) := by decide +kernel
theorem dX5_bestShift_66 : decode cX5_bestShift 66 = .ok (.iload_n 3, 1) := by decide +kernel
theorem dX5_bestShift_67 : decode cX5_bestShift 67 = .ok (.if_icmp .ge 10, 3) := by decide +kernel
theorem dX5_bestShift_70 : decode cX5_bestShift 70 = .ok (.iload 6, 2) := by decide +kernel
