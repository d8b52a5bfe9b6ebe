theorem dX8_findTree_56 : decode cX8_findTree 56 = .ok (.iload_n 2, 1) := by decide +kernel
theorem dX8_findTree_57 : decode cX8_findTree 57 = .ok (.aload_n 0, 1) := by decide +kernel
theorem dX8_findTree_58 : decode cX8_findTree 58 = .ok (.getfield 97, 3) := by decide +kernel
theorem dX8_findTree_61 : decode cX8_findTree 61 = .ok (.if_icmp .ge 117, 3) := by decide +kernel
theorem dX8_findTree_64 : decode cX8_findTree 64 = .ok (.iconst 0, 1) := by decide +kernel
theorem dX8_findTree_65 : decode cX8_findTree 65 = .ok (.istore_n 3, 1) := by decide +kernel
theorem dX8_findTree_66 : decode cX8_findTree 66 = .ok (.aload_n 0, 1) := by decide +kernel
theorem dX8_findTree_67 : decode cX8_findTree 67 = .ok (.iload_n 2, 1) := by decide +kernel
theorem dX8_findTree_68 : decode cX8_findTree 68 = .ok (.iload_n 1, 1) := by decide +kernel
theorem dX8_findTree_69 : decode cX8_findTree 69 = .ok (.iload_n 3, 1) := by decide +kernel
theorem dX8_findTree_70 : decode cX8_findTree 70 = .ok (.invokevirtual 159, 3) := by decide +kernel
theorem dX8_findTree_73 : decode cX8_findTree 73 = .ok (.aload_n 0, 1) := by decide +kernel
theorem dX8_findTree_74 : decode cX8_findTree 74 = .ok (.iload_n 2, 1) := by decide +kernel
theorem dX8_findTree_75 : decode cX8_findTree 75 = .ok (.iload_n 1, 1) := by decide +kernel
theorem dX8_findTree_76 : decode cX8_findTree 76 = .ok (.invokevirtual 152, 3) := by decide +kernel
theorem dX8_findTree_79 : decode cX8_findTree 79 = .ok (.if_icmp .eq 9, 3) := by decide +kernel
theorem dX8_findTree_82 : decode cX8_findTree 82 = .ok (.iinc 3 1, 3) := by decide +kernel
theorem dX8_findTree_85 : decode cX8_findTree 85 = .ok (.goto (-19), 3) := by decide +kernel
theorem dX8_findTree_88 : decode cX8_findTree 88 = .ok (.aload_n 0, 1) := by decide +kernel
theorem dX8_findTree_89 : decode cX8_findTree 89 = .ok (.getfield 58, 3) := by decide +kernel
theorem dX8_findTree_92 : decode cX8_findTree 92 = .ok (.iload_n 2, 1) := by decide +kernel
theorem dX8_findTree_93 : decode cX8_findTree 93 = .ok (.iload_n 3, 1) := by decide +kernel
theorem dX8_findTree_94 : decode cX8_findTree 94 = .ok (.iastore, 1) := by decide +kernel
theorem dX8_findTree_95 : decode cX8_findTree 95 = .ok (.iload_n 3, 1) := by decide +kernel
theorem dX8_findTree_96 : decode cX8_findTree 96 = .ok (.ifCond .ne 7, 3) := by decide +kernel
theorem dX8_findTree_99 : decode cX8_findTree 99 = .ok (.iload_n 1, 1) := by decide +kernel
theorem dX8_findTree_100 : decode cX8_findTree 100 = .ok (.goto 10, 3) := by decide +kernel
theorem dX8_findTree_103 : decode cX8_findTree 103 = .ok (.aload_n 0, 1) := by decide +kernel
theorem dX8_findTree_104 : decode cX8_findTree 104 = .ok (.iload_n 1, 1) := by decide +kernel
theorem dX8_findTree_105 : decode cX8_findTree 105 = .ok (.iload_n 2, 1) := by decide +kernel
theorem dX8_findTree_106 : decode cX8_findTree 106 = .ok (.iload_n 3, 1) := by decide +kernel
theorem dX8_findTree_107 : decode cX8_findTree 107 = .ok (.invokevirtual 144, 3) := by decide +kernel
theorem dX8_findTree_110 : decode cX8_findTree 110 = .ok (.istore_n 1, 1) := by decide +kernel
theorem dX8_findTree_111 : decode cX8_findTree 111 = .ok (.iconst 0, 1) := by decide +kernel
theorem dX8_findTree_112 : decode cX8_findTree 112 = .ok (.istore 4, 2) := by decide +kernel
theorem dX8_findTree_114 : decode cX8_findTree 114 = .ok (.iload 4, 2) := by decide +kernel
theorem dX8_findTree_116 : decode cX8_findTree 116 = .ok (.iconst 3, 1) := by decide +kernel
theorem dX8_findTree_117 : decode cX8_findTree 117 = .ok (.if_icmp .ge 28, 3) := by decide +kernel
theorem dX8_findTree_120 : decode cX8_findTree 120 = .ok (.aload_n 0, 1) := by decide +kernel
theorem dX8_findTree_121 : decode cX8_findTree 121 = .ok (.getfield 61, 3) := by decide +kernel
theorem dX8_findTree_124 : decode cX8_findTree 124 = .ok (.iconst 3, 1) := by decide +kernel
theorem dX8_findTree_125 : decode cX8_findTree 125 = .ok (.iload_n 2, 1) := by decide +kernel
theorem dX8_findTree_126 : decode cX8_findTree 126 = .ok (.imul, 1) := by decide +kernel
theorem dX8_findTree_127 : decode cX8_findTree 127 = .ok (.iload 4, 2) := by decide +kernel
theorem dX8_findTree_129 : decode cX8_findTree 129 = .ok (.iadd, 1) := by decide +kernel
theorem dX8_findTree_130 : decode cX8_findTree 130 = .ok (.iload_n 1, 1) := by decide +kernel
theorem dX8_findTree_131 : decode cX8_findTree 131 = .ok (.iload 4, 2) := by decide +kernel
theorem dX8_findTree_133 : decode cX8_findTree 133 = .ok (.iconst 1, 1) := by decide +kernel
theorem dX8_findTree_134 : decode cX8_findTree 134 = .ok (.iadd, 1) := by decide +kernel
theorem dX8_findTree_135 : decode cX8_findTree 135 = .ok (.invokestatic 131, 3) := by decide +kernel
theorem dX8_findTree_138 : decode cX8_findTree 138 = .ok (.iastore, 1) := by decide +kernel
theorem dX8_findTree_139 : decode cX8_findTree 139 = .ok (.iinc 4 1, 3) := by decide +kernel
theorem dX8_findTree_142 : decode cX8_findTree 142 = .ok (.goto (-28), 3) := by decide +kernel
theorem dX8_findTree_145 : decode cX8_findTree 145 = .ok (.iload_n 3, 1) := by decide +kernel
theorem dX8_findTree_146 : decode cX8_findTree 146 = .ok (.ifCond .ne 6, 3) := by decide +kernel
theorem dX8_findTree_149 : decode cX8_findTree 149 = .ok (.goto 23, 3) := by decide +kernel
theorem dX8_findTree_152 : decode cX8_findTree 152 = .ok (.aload_n 0, 1) := by decide +kernel
theorem dX8_findTree_153 : decode cX8_findTree 153 = .ok (.getfield 64, 3) := by decide +kernel
theorem dX8_findTree_156 : decode cX8_findTree 156 = .ok (.aload_n 0, 1) := by decide +kernel
theorem dX8_findTree_157 : decode cX8_findTree 157 = .ok (.getfield 171, 3) := by decide +kernel
theorem dX8_findTree_160 : decode cX8_findTree 160 = .ok (.iload_n 2, 1) := by decide +kernel
theorem dX8_findTree_161 : decode cX8_findTree 161 = .ok (.iastore, 1) := by decide +kernel
theorem dX8_findTree_162 : decode cX8_findTree 162 = .ok (.aload_n 0, 1) := by decide +kernel
theorem dX8_findTree_163 : decode cX8_findTree 163 = .ok (.dup, 1) := by decide +kernel
theorem dX8_findTree_164 : decode cX8_findTree 164 = .ok (.getfield 171, 3) := by decide +kernel
theorem dX8_findTree_167 : decode cX8_findTree 167 = .ok (.iconst 1, 1) := by decide +kernel
theorem dX8_findTree_168 : decode cX8_findTree 168 = .ok (.iadd, 1) := by decide +kernel
theorem dX8_findTree_169 : decode cX8_findTree 169 = .ok (.putfield 171, 3) := by decide +kernel
theorem dX8_findTree_172 : decode cX8_findTree 172 = .ok (.iinc 2 1, 3) := by decide +kernel
theorem dX8_findTree_175 : decode cX8_findTree 175 = .ok (.goto (-119), 3) := by decide +kernel
theorem dX8_findTree_178 : decode cX8_findTree 178 = .ok (.return_, 1) := by decide +kernel
theorem dX8_partnerCost_0 : decode cX8_partnerCost 0 = .ok (.iconst 0, 1) := by decide +kernel
theorem dX8_partnerCost_1 : decode cX8_partnerCost 1 = .ok (.istore_n 3, 1) := by decide +kernel
theorem dX8_partnerCost_2 : decode cX8_partnerCost 2 = .ok (.iconst 0, 1) := by decide +kernel
theorem dX8_partnerCost_3 : decode cX8_partnerCost 3 = .ok (.istore 4, 2) := by decide +kernel
theorem dX8_partnerCost_5 : decode cX8_partnerCost 5 = .ok (.iload 4, 2) := by decide +kernel
theorem dX8_partnerCost_7 : decode cX8_partnerCost 7 = .ok (.bipush 8, 2) := by decide +kernel
theorem dX8_partnerCost_9 : decode cX8_partnerCost 9 = .ok (.if_icmp .ge 45, 3) := by decide +kernel
theorem dX8_partnerCost_12 : decode cX8_partnerCost 12 = .ok (.aload_n 0, 1) := by decide +kernel
theorem dX8_partnerCost_13 : decode cX8_partnerCost 13 = .ok (.getfield 51, 3) := by decide +kernel
theorem dX8_partnerCost_16 : decode cX8_partnerCost 16 = .ok (.bipush 8, 2) := by decide +kernel
theorem dX8_partnerCost_18 : decode cX8_partnerCost 18 = .ok (.iload_n 1, 1) := by decide +kernel
theorem dX8_partnerCost_19 : decode cX8_partnerCost 19 = .ok (.imul, 1) := by decide +kernel
theorem dX8_partnerCost_20 : decode cX8_partnerCost 20 = .ok (.iload 4, 2) := by decide +kernel
theorem dX8_partnerCost_22 : decode cX8_partnerCost 22 = .ok (.iadd, 1) := by decide +kernel
theorem dX8_partnerCost_23 : decode cX8_partnerCost 23 = .ok (.iaload, 1) := by decide +kernel
theorem dX8_partnerCost_24 : decode cX8_partnerCost 24 = .ok (.aload_n 0, 1) := by decide +kernel
theorem dX8_partnerCost_25 : decode cX8_partnerCost 25 = .ok (.getfield 30, 3) := by decide +kernel
theorem dX8_partnerCost_28 : decode cX8_partnerCost 28 = .ok (.bipush 8, 2) := by decide +kernel
theorem dX8_partnerCost_30 : decode cX8_partnerCost 30 = .ok (.iload_n 2, 1) := by decide +kernel
theorem dX8_partnerCost_31 : decode cX8_partnerCost 31 = .ok (.imul, 1) := by decide +kernel
theorem dX8_partnerCost_32 : decode cX8_partnerCost 32 = .ok (.iload 4, 2) := by decide +kernel
theorem dX8_partnerCost_34 : decode cX8_partnerCost 34 = .ok (.iadd, 1) := by decide +kernel
theorem dX8_partnerCost_35 : decode cX8_partnerCost 35 = .ok (.iaload, 1) := by decide +kernel
theorem dX8_partnerCost_36 : decode cX8_partnerCost 36 = .ok (.if_icmp .eq 12, 3) := by decide +kernel
theorem dX8_partnerCost_39 : decode cX8_partnerCost 39 = .ok (.iload_n 3, 1) := by decide +kernel
theorem dX8_partnerCost_40 : decode cX8_partnerCost 40 = .ok (.aload_n 0, 1) := by decide +kernel
theorem dX8_partnerCost_41 : decode cX8_partnerCost 41 = .ok (.getfield 39, 3) := by decide +kernel
theorem dX8_partnerCost_44 : decode cX8_partnerCost 44 = .ok (.iconst 4, 1) := by decide +kernel
theorem dX8_partnerCost_45 : decode cX8_partnerCost 45 = .ok (.iaload, 1) := by decide +kernel
theorem dX8_partnerCost_46 : decode cX8_partnerCost 46 = .ok (.iadd, 1) := by decide +kernel
theorem dX8_partnerCost_47 : decode cX8_partnerCost 47 = .ok (.istore_n 3, 1) := by decide +kernel
theorem dX8_partnerCost_48 : decode cX8_partnerCost 48 = .ok (.iinc 4 1, 3) := by decide +kernel
theorem dX8_partnerCost_51 : decode cX8_partnerCost 51 = .ok (.goto (-46), 3) := by decide +kernel
theorem dX8_partnerCost_54 : decode cX8_partnerCost 54 = .ok (.iload_n 3, 1) := by decide +kernel
theorem dX8_partnerCost_55 : decode cX8_partnerCost 55 = .ok (.aload_n 0, 1) := by decide +kernel
theorem dX8_partnerCost_56 : decode cX8_partnerCost 56 = .ok (.getfield 39, 3) := by decide +kernel
theorem dX8_partnerCost_59 : decode cX8_partnerCost 59 = .ok (.iconst 5, 1) := by decide +kernel
theorem dX8_partnerCost_60 : decode cX8_partnerCost 60 = .ok (.iaload, 1) := by decide +kernel
theorem dX8_partnerCost_61 : decode cX8_partnerCost 61 = .ok (.aload_n 0, 1) := by decide +kernel
theorem dX8_partnerCost_62 : decode cX8_partnerCost 62 = .ok (.getfield 45, 3) := by decide +kernel
theorem dX8_partnerCost_65 : decode cX8_partnerCost 65 = .ok (.iload_n 1, 1) := by decide +kernel
theorem dX8_partnerCost_66 : decode cX8_partnerCost 66 = .ok (.iaload, 1) := by decide +kernel
theorem dX8_partnerCost_67 : decode cX8_partnerCost 67 = .ok (.aload_n 0, 1) := by decide +kernel
theorem dX8_partnerCost_68 : decode cX8_partnerCost 68 = .ok (.getfield 58, 3) := by decide +kernel
theorem dX8_partnerCost_71 : decode cX8_partnerCost 71 = .ok (.iload_n 2, 1) := by decide +kernel
theorem dX8_partnerCost_72 : decode cX8_partnerCost 72 = .ok (.iaload, 1) := by decide +kernel
theorem dX8_partnerCost_73 : decode cX8_partnerCost 73 = .ok (.isub, 1) := by decide +kernel
theorem dX8_partnerCost_74 : decode cX8_partnerCost 74 = .ok (.invokestatic 139, 3) := by decide +kernel
theorem dX8_partnerCost_77 : decode cX8_partnerCost 77 = .ok (.imul, 1) := by decide +kernel
theorem dX8_partnerCost_78 : decode cX8_partnerCost 78 = .ok (.iadd, 1) := by decide +kernel
theorem dX8_partnerCost_79 : decode cX8_partnerCost 79 = .ok (.istore_n 3, 1) := by decide +kernel
theorem dX8_partnerCost_80 : decode cX8_partnerCost 80 = .ok (.aload_n 0, 1) := by decide +kernel
theorem dX8_partnerCost_81 : decode cX8_partnerCost 81 = .ok (.getfield 48, 3) := by decide +kernel
theorem dX8_partnerCost_84 : decode cX8_partnerCost 84 = .ok (.iload_n 1, 1) := by decide +kernel
theorem dX8_partnerCost_85 : decode cX8_partnerCost 85 = .ok (.iaload, 1) := by decide +kernel
theorem dX8_partnerCost_86 : decode cX8_partnerCost 86 = .ok (.aload_n 0, 1) := by decide +kernel
theorem dX8_partnerCost_87 : decode cX8_partnerCost 87 = .ok (.getfield 13, 3) := by decide +kernel
theorem dX8_partnerCost_90 : decode cX8_partnerCost 90 = .ok (.aload_n 0, 1) := by decide +kernel
theorem dX8_partnerCost_91 : decode cX8_partnerCost 91 = .ok (.getfield 17, 3) := by decide +kernel
theorem dX8_partnerCost_94 : decode cX8_partnerCost 94 = .ok (.iload_n 2, 1) := by decide +kernel
theorem dX8_partnerCost_95 : decode cX8_partnerCost 95 = .ok (.iaload, 1) := by decide +kernel
theorem dX8_partnerCost_96 : decode cX8_partnerCost 96 = .ok (.iaload, 1) := by decide +kernel
theorem dX8_partnerCost_97 : decode cX8_partnerCost 97 = .ok (.if_icmp .ne 7, 3) := by decide +kernel
theorem dX8_partnerCost_100 : decode cX8_partnerCost 100 = .ok (.iload_n 3, 1) := by decide +kernel
theorem dX8_partnerCost_101 : decode cX8_partnerCost 101 = .ok (.goto 12, 3) := by decide +kernel
theorem dX8_partnerCost_104 : decode cX8_partnerCost 104 = .ok (.iload_n 3, 1) := by decide +kernel
theorem dX8_partnerCost_105 : decode cX8_partnerCost 105 = .ok (.aload_n 0, 1) := by decide +kernel
theorem dX8_partnerCost_106 : decode cX8_partnerCost 106 = .ok (.getfield 39, 3) := by decide +kernel
theorem dX8_partnerCost_109 : decode cX8_partnerCost 109 = .ok (.bipush 6, 2) := by decide +kernel
theorem dX8_partnerCost_111 : decode cX8_partnerCost 111 = .ok (.iaload, 1) := by decide +kernel
theorem dX8_partnerCost_112 : decode cX8_partnerCost 112 = .ok (.iadd, 1) := by decide +kernel
theorem dX8_partnerCost_113 : decode cX8_partnerCost 113 = .ok (.ireturn, 1) := by decide +kernel
theorem dX8_costWith_0 : decode cX8_costWith 0 = .ok (.bipush 21, 2) := by decide +kernel
theorem dX8_costWith_2 : decode cX8_costWith 2 = .ok (.istore 4, 2) := by decide +kernel
theorem dX8_costWith_4 : decode cX8_costWith 4 = .ok (.iload_n 3, 1) := by decide +kernel
theorem dX8_costWith_5 : decode cX8_costWith 5 = .ok (.aload_n 0, 1) := by decide +kernel
theorem dX8_costWith_6 : decode cX8_costWith 6 = .ok (.getfield 171, 3) := by decide +kernel
theorem dX8_costWith_9 : decode cX8_costWith 9 = .ok (.if_icmp .ne 25, 3) := by decide +kernel
theorem dX8_costWith_12 : decode cX8_costWith 12 = .ok (.aload_n 0, 1) := by decide +kernel
theorem dX8_costWith_13 : decode cX8_costWith 13 = .ok (.getfield 39, 3) := by decide +kernel
theorem dX8_costWith_16 : decode cX8_costWith 16 = .ok (.bipush 7, 2) := by decide +kernel
theorem dX8_costWith_18 : decode cX8_costWith 18 = .ok (.iaload, 1) := by decide +kernel
theorem dX8_costWith_19 : decode cX8_costWith 19 = .ok (.aload_n 0, 1) := by decide +kernel
theorem dX8_costWith_20 : decode cX8_costWith 20 = .ok (.getfield 67, 3) := by decide +kernel
theorem dX8_costWith_23 : decode cX8_costWith 23 = .ok (.iload 4, 2) := by decide +kernel
theorem dX8_costWith_25 : decode cX8_costWith 25 = .ok (.iload_n 1, 1) := by decide +kernel
theorem dX8_costWith_26 : decode cX8_costWith 26 = .ok (.iconst 1, 1) := by decide +kernel
theorem dX8_costWith_27 : decode cX8_costWith 27 = .ok (.iadd, 1) := by decide +kernel
theorem dX8_costWith_28 : decode cX8_costWith 28 = .ok (.imul, 1) := by decide +kernel
theorem dX8_costWith_29 : decode cX8_costWith 29 = .ok (.iload_n 2, 1) := by decide +kernel
theorem dX8_costWith_30 : decode cX8_costWith 30 = .ok (.iadd, 1) := by decide +kernel
theorem dX8_costWith_31 : decode cX8_costWith 31 = .ok (.iaload, 1) := by decide +kernel
theorem dX8_costWith_32 : decode cX8_costWith 32 = .ok (.iadd, 1) := by decide +kernel
theorem dX8_costWith_33 : decode cX8_costWith 33 = .ok (.ireturn, 1) := by decide +kernel
theorem dX8_costWith_34 : decode cX8_costWith 34 = .ok (.aload_n 0, 1) := by decide +kernel
theorem dX8_costWith_35 : decode cX8_costWith 35 = .ok (.getfield 39, 3) := by decide +kernel
theorem dX8_costWith_38 : decode cX8_costWith 38 = .ok (.bipush 7, 2) := by decide +kernel
theorem dX8_costWith_40 : decode cX8_costWith 40 = .ok (.iaload, 1) := by decide +kernel
theorem dX8_costWith_41 : decode cX8_costWith 41 = .ok (.iload_n 3, 1) := by decide +kernel
theorem dX8_costWith_42 : decode cX8_costWith 42 = .ok (.iload_n 2, 1) := by decide +kernel
theorem dX8_costWith_43 : decode cX8_costWith 43 = .ok (.isub, 1) := by decide +kernel
theorem dX8_costWith_44 : decode cX8_costWith 44 = .ok (.imul, 1) := by decide +kernel
theorem dX8_costWith_45 : decode cX8_costWith 45 = .ok (.aload_n 0, 1) := by decide +kernel
theorem dX8_costWith_46 : decode cX8_costWith 46 = .ok (.iload_n 1, 1) := by decide +kernel
theorem dX8_costWith_47 : decode cX8_costWith 47 = .ok (.aload_n 0, 1) := by decide +kernel
theorem dX8_costWith_48 : decode cX8_costWith 48 = .ok (.getfield 64, 3) := by decide +kernel
theorem dX8_costWith_51 : decode cX8_costWith 51 = .ok (.iload_n 3, 1) := by decide +kernel
theorem dX8_costWith_52 : decode cX8_costWith 52 = .ok (.iaload, 1) := by decide +kernel
theorem dX8_costWith_53 : decode cX8_costWith 53 = .ok (.invokevirtual 174, 3) := by decide +kernel
theorem dX8_costWith_56 : decode cX8_costWith 56 = .ok (.iadd, 1) := by decide +kernel
theorem dX8_costWith_57 : decode cX8_costWith 57 = .ok (.aload_n 0, 1) := by decide +kernel
theorem dX8_costWith_58 : decode cX8_costWith 58 = .ok (.getfield 67, 3) := by decide +kernel
theorem dX8_costWith_61 : decode cX8_costWith 61 = .ok (.iload 4, 2) := by decide +kernel
theorem dX8_costWith_63 : decode cX8_costWith 63 = .ok (.iload_n 1, 1) := by decide +kernel
theorem dX8_costWith_64 : decode cX8_costWith 64 = .ok (.iconst 1, 1) := by decide +kernel
theorem dX8_costWith_65 : decode cX8_costWith 65 = .ok (.iadd, 1) := by decide +kernel
theorem dX8_costWith_66 : decode cX8_costWith 66 = .ok (.imul, 1) := by decide +kernel
theorem dX8_costWith_67 : decode cX8_costWith 67 = .ok (.iload_n 3, 1) := by decide +kernel
theorem dX8_costWith_68 : decode cX8_costWith 68 = .ok (.iadd, 1) := by decide +kernel
theorem dX8_costWith_69 : decode cX8_costWith 69 = .ok (.iconst 1, 1) := by decide +kernel
theorem dX8_costWith_70 : decode cX8_costWith 70 = .ok (.iadd, 1) := by decide +kernel
theorem dX8_costWith_71 : decode cX8_costWith 71 = .ok (.iaload, 1) := by decide +kernel
theorem dX8_costWith_72 : decode cX8_costWith 72 = .ok (.iadd, 1) := by decide +kernel
theorem dX8_costWith_73 : decode cX8_costWith 73 = .ok (.ireturn, 1) := by decide +kernel
theorem dX8_hold_0 : decode cX8_hold 0 = .ok (.bipush 21, 2) := by decide +kernel
theorem dX8_hold_2 : decode cX8_hold 2 = .ok (.istore_n 1, 1) := by decide +kernel
theorem dX8_hold_3 : decode cX8_hold 3 = .ok (.iconst 0, 1) := by decide +kernel
theorem dX8_hold_4 : decode cX8_hold 4 = .ok (.istore_n 2, 1) := by decide +kernel
theorem dX8_hold_5 : decode cX8_hold 5 = .ok (.iload_n 2, 1) := by decide +kernel
theorem dX8_hold_6 : decode cX8_hold 6 = .ok (.aload_n 0, 1) := by decide +kernel
theorem dX8_hold_7 : decode cX8_hold 7 = .ok (.getfield 171, 3) := by decide +kernel
theorem dX8_hold_10 : decode cX8_hold 10 = .ok (.if_icmp .gt 36, 3) := by decide +kernel
theorem dX8_hold_13 : decode cX8_hold 13 = .ok (.aload_n 0, 1) := by decide +kernel
theorem dX8_hold_14 : decode cX8_hold 14 = .ok (.getfield 67, 3) := by decide +kernel
theorem dX8_hold_17 : decode cX8_hold 17 = .ok (.iload_n 1, 1) := by decide +kernel
theorem dX8_hold_18 : decode cX8_hold 18 = .ok (.aload_n 0, 1) := by decide +kernel
theorem dX8_hold_19 : decode cX8_hold 19 = .ok (.getfield 104, 3) := by decide +kernel
theorem dX8_hold_22 : decode cX8_hold 22 = .ok (.imul, 1) := by decide +kernel
theorem dX8_hold_23 : decode cX8_hold 23 = .ok (.iload_n 2, 1) := by decide +kernel
theorem dX8_hold_24 : decode cX8_hold 24 = .ok (.iadd, 1) := by decide +kernel
theorem dX8_hold_25 : decode cX8_hold 25 = .ok (.aload_n 0, 1) := by decide +kernel
theorem dX8_hold_26 : decode cX8_hold 26 = .ok (.getfield 39, 3) := by decide +kernel
theorem dX8_hold_29 : decode cX8_hold 29 = .ok (.bipush 7, 2) := by decide +kernel
theorem dX8_hold_31 : decode cX8_hold 31 = .ok (.iaload, 1) := by decide +kernel
theorem dX8_hold_32 : decode cX8_hold 32 = .ok (.aload_n 0, 1) := by decide +kernel
theorem dX8_hold_33 : decode cX8_hold 33 = .ok (.getfield 171, 3) := by decide +kernel
theorem dX8_hold_36 : decode cX8_hold 36 = .ok (.iload_n 2, 1) := by decide +kernel
theorem dX8_hold_37 : decode cX8_hold 37 = .ok (.isub, 1) := by decide +kernel
theorem dX8_hold_38 : decode cX8_hold 38 = .ok (.imul, 1) := by decide +kernel
theorem dX8_hold_39 : decode cX8_hold 39 = .ok (.iastore, 1) := by decide +kernel
theorem dX8_hold_40 : decode cX8_hold 40 = .ok (.iinc 2 1, 3) := by decide +kernel
theorem dX8_hold_43 : decode cX8_hold 43 = .ok (.goto (-38), 3) := by decide +kernel
theorem dX8_hold_46 : decode cX8_hold 46 = .ok (.aload_n 0, 1) := by decide +kernel
theorem dX8_hold_47 : decode cX8_hold 47 = .ok (.getfield 104, 3) := by decide +kernel
theorem dX8_hold_50 : decode cX8_hold 50 = .ok (.iconst 1, 1) := by decide +kernel
theorem dX8_hold_51 : decode cX8_hold 51 = .ok (.isub, 1) := by decide +kernel
theorem dX8_hold_52 : decode cX8_hold 52 = .ok (.istore_n 2, 1) := by decide +kernel
theorem dX8_hold_53 : decode cX8_hold 53 = .ok (.iload_n 2, 1) := by decide +kernel
theorem dX8_hold_54 : decode cX8_hold 54 = .ok (.ifCond .lt 74, 3) := by decide +kernel
theorem dX8_hold_57 : decode cX8_hold 57 = .ok (.iconst 0, 1) := by decide +kernel
theorem dX8_hold_58 : decode cX8_hold 58 = .ok (.istore_n 3, 1) := by decide +kernel
theorem dX8_hold_59 : decode cX8_hold 59 = .ok (.iload_n 3, 1) := by decide +kernel
theorem dX8_hold_60 : decode cX8_hold 60 = .ok (.aload_n 0, 1) := by decide +kernel
theorem dX8_hold_61 : decode cX8_hold 61 = .ok (.getfield 171, 3) := by decide +kernel
theorem dX8_hold_64 : decode cX8_hold 64 = .ok (.if_icmp .gt 58, 3) := by decide +kernel
theorem dX8_hold_67 : decode cX8_hold 67 = .ok (.ldc 148, 2) := by decide +kernel
theorem dX8_hold_69 : decode cX8_hold 69 = .ok (.istore 4, 2) := by decide +kernel
theorem dX8_hold_71 : decode cX8_hold 71 = .ok (.iload_n 3, 1) := by decide +kernel
theorem dX8_hold_72 : decode cX8_hold 72 = .ok (.istore 5, 2) := by decide +kernel
theorem dX8_hold_74 : decode cX8_hold 74 = .ok (.iload 5, 2) := by decide +kernel
theorem dX8_hold_76 : decode cX8_hold 76 = .ok (.aload_n 0, 1) := by decide +kernel
theorem dX8_hold_77 : decode cX8_hold 77 = .ok (.getfield 171, 3) := by decide +kernel
theorem dX8_hold_80 : decode cX8_hold 80 = .ok (.if_icmp .gt 24, 3) := by decide +kernel
theorem dX8_hold_83 : decode cX8_hold 83 = .ok (.iload 4, 2) := by decide +kernel
theorem dX8_hold_85 : decode cX8_hold 85 = .ok (.aload_n 0, 1) := by decide +kernel
theorem dX8_hold_86 : decode cX8_hold 86 = .ok (.iload_n 2, 1) := by decide +kernel
theorem dX8_hold_87 : decode cX8_hold 87 = .ok (.iload_n 3, 1) := by decide +kernel
theorem dX8_hold_88 : decode cX8_hold 88 = .ok (.iload 5, 2) := by decide +kernel
theorem dX8_hold_90 : decode cX8_hold 90 = .ok (.invokevirtual 177, 3) := by decide +kernel
theorem dX8_hold_93 : decode cX8_hold 93 = .ok (.invokestatic 162, 3) := by decide +kernel
theorem dX8_hold_96 : decode cX8_hold 96 = .ok (.istore 4, 2) := by decide +kernel
theorem dX8_hold_98 : decode cX8_hold 98 = .ok (.iinc 5 1, 3) := by decide +kernel
theorem dX8_hold_101 : decode cX8_hold 101 = .ok (.goto (-27), 3) := by decide +kernel
theorem dX8_hold_104 : decode cX8_hold 104 = .ok (.aload_n 0, 1) := by decide +kernel
theorem dX8_hold_105 : decode cX8_hold 105 = .ok (.getfield 67, 3) := by decide +kernel
theorem dX8_hold_108 : decode cX8_hold 108 = .ok (.iload_n 1, 1) := by decide +kernel
theorem dX8_hold_109 : decode cX8_hold 109 = .ok (.iload_n 2, 1) := by decide +kernel
theorem dX8_hold_110 : decode cX8_hold 110 = .ok (.imul, 1) := by decide +kernel
theorem dX8_hold_111 : decode cX8_hold 111 = .ok (.iload_n 3, 1) := by decide +kernel
theorem dX8_hold_112 : decode cX8_hold 112 = .ok (.iadd, 1) := by decide +kernel
theorem dX8_hold_113 : decode cX8_hold 113 = .ok (.iload 4, 2) := by decide +kernel
theorem dX8_hold_115 : decode cX8_hold 115 = .ok (.iastore, 1) := by decide +kernel
theorem dX8_hold_116 : decode cX8_hold 116 = .ok (.iinc 3 1, 3) := by decide +kernel
theorem dX8_hold_119 : decode cX8_hold 119 = .ok (.goto (-60), 3) := by decide +kernel
theorem dX8_hold_122 : decode cX8_hold 122 = .ok (.iinc 2 (-1), 3) := by decide +kernel
theorem dX8_hold_125 : decode cX8_hold 125 = .ok (.goto (-72), 3) := by decide +kernel
theorem dX8_hold_128 : decode cX8_hold 128 = .ok (.iconst 0, 1) := by decide +kernel
theorem dX8_hold_129 : decode cX8_hold 129 = .ok (.istore_n 2, 1) := by decide +kernel
theorem dX8_hold_130 : decode cX8_hold 130 = .ok (.iconst 0, 1) := by decide +kernel
theorem dX8_hold_131 : decode cX8_hold 131 = .ok (.istore_n 3, 1) := by decide +kernel
theorem dX8_hold_132 : decode cX8_hold 132 = .ok (.iload_n 3, 1) := by decide +kernel
theorem dX8_hold_133 : decode cX8_hold 133 = .ok (.aload_n 0, 1) := by decide +kernel
theorem dX8_hold_134 : decode cX8_hold 134 = .ok (.getfield 104, 3) := by decide +kernel
theorem dX8_hold_137 : decode cX8_hold 137 = .ok (.if_icmp .ge 79, 3) := by decide +kernel
theorem dX8_hold_140 : decode cX8_hold 140 = .ok (.iload_n 2, 1) := by decide +kernel
theorem dX8_hold_141 : decode cX8_hold 141 = .ok (.istore 4, 2) := by decide +kernel
theorem dX8_hold_143 : decode cX8_hold 143 = .ok (.aload_n 0, 1) := by decide +kernel
theorem dX8_hold_144 : decode cX8_hold 144 = .ok (.iload_n 3, 1) := by decide +kernel
theorem dX8_hold_145 : decode cX8_hold 145 = .ok (.iload_n 2, 1) := by decide +kernel
theorem dX8_hold_146 : decode cX8_hold 146 = .ok (.iload 4, 2) := by decide +kernel
theorem dX8_hold_148 : decode cX8_hold 148 = .ok (.invokevirtual 177, 3) := by decide +kernel
theorem dX8_hold_151 : decode cX8_hold 151 = .ok (.aload_n 0, 1) := by decide +kernel
theorem dX8_hold_152 : decode cX8_hold 152 = .ok (.getfield 67, 3) := by decide +kernel
theorem dX8_hold_155 : decode cX8_hold 155 = .ok (.iload_n 1, 1) := by decide +kernel
theorem dX8_hold_156 : decode cX8_hold 156 = .ok (.iload_n 3, 1) := by decide +kernel
theorem dX8_hold_157 : decode cX8_hold 157 = .ok (.imul, 1) := by decide +kernel
theorem dX8_hold_158 : decode cX8_hold 158 = .ok (.iload_n 2, 1) := by decide +kernel
theorem dX8_hold_159 : decode cX8_hold 159 = .ok (.iadd, 1) := by decide +kernel
theorem dX8_hold_160 : decode cX8_hold 160 = .ok (.iaload, 1) := by decide +kernel
theorem dX8_hold_161 : decode cX8_hold 161 = .ok (.if_icmp .eq 9, 3) := by decide +kernel
theorem dX8_hold_164 : decode cX8_hold 164 = .ok (.iinc 4 1, 3) := by decide +kernel
theorem dX8_hold_167 : decode cX8_hold 167 = .ok (.goto (-24), 3) := by decide +kernel
theorem dX8_hold_170 : decode cX8_hold 170 = .ok (.aload_n 0, 1) := by decide +kernel
theorem dX8_hold_171 : decode cX8_hold 171 = .ok (.getfield 70, 3) := by decide +kernel
theorem dX8_hold_174 : decode cX8_hold 174 = .ok (.iload_n 3, 1) := by decide +kernel
theorem dX8_hold_175 : decode cX8_hold 175 = .ok (.iload 4, 2) := by decide +kernel
theorem dX8_hold_177 : decode cX8_hold 177 = .ok (.aload_n 0, 1) := by decide +kernel
theorem dX8_hold_178 : decode cX8_hold 178 = .ok (.getfield 171, 3) := by decide +kernel
theorem dX8_hold_181 : decode cX8_hold 181 = .ok (.if_icmp .ne 7, 3) := by decide +kernel
theorem dX8_hold_184 : decode cX8_hold 184 = .ok (.iconst (-1), 1) := by decide +kernel
theorem dX8_hold_185 : decode cX8_hold 185 = .ok (.goto 10, 3) := by decide +kernel
theorem dX8_hold_188 : decode cX8_hold 188 = .ok (.aload_n 0, 1) := by decide +kernel
theorem dX8_hold_189 : decode cX8_hold 189 = .ok (.getfield 64, 3) := by decide +kernel
theorem dX8_hold_192 : decode cX8_hold 192 = .ok (.iload 4, 2) := by decide +kernel
theorem dX8_hold_194 : decode cX8_hold 194 = .ok (.iaload, 1) := by decide +kernel
theorem dX8_hold_195 : decode cX8_hold 195 = .ok (.iastore, 1) := by decide +kernel
theorem dX8_hold_196 : decode cX8_hold 196 = .ok (.iload 4, 2) := by decide +kernel
theorem dX8_hold_198 : decode cX8_hold 198 = .ok (.aload_n 0, 1) := by decide +kernel
theorem dX8_hold_199 : decode cX8_hold 199 = .ok (.getfield 171, 3) := by decide +kernel
theorem dX8_hold_202 : decode cX8_hold 202 = .ok (.if_icmp .ge 8, 3) := by decide +kernel
theorem dX8_hold_205 : decode cX8_hold 205 = .ok (.iload 4, 2) := by decide +kernel
theorem dX8_hold_207 : decode cX8_hold 207 = .ok (.iconst 1, 1) := by decide +kernel
theorem dX8_hold_208 : decode cX8_hold 208 = .ok (.iadd, 1) := by decide +kernel
theorem dX8_hold_209 : decode cX8_hold 209 = .ok (.istore_n 2, 1) := by decide +kernel
theorem dX8_hold_210 : decode cX8_hold 210 = .ok (.iinc 3 1, 3) := by decide +kernel
theorem dX8_hold_213 : decode cX8_hold 213 = .ok (.goto (-81), 3) := by decide +kernel
theorem dX8_hold_216 : decode cX8_hold 216 = .ok (.return_, 1) := by decide +kernel
theorem dX8_wrongIn_0 : decode cX8_wrongIn 0 = .ok (.iconst 0, 1) := by decide +kernel
theorem dX8_wrongIn_1 : decode cX8_wrongIn 1 = .ok (.istore_n 3, 1) := by decide +kernel
theorem dX8_wrongIn_2 : decode cX8_wrongIn 2 = .ok (.iconst 0, 1) := by decide +kernel
theorem dX8_wrongIn_3 : decode cX8_wrongIn 3 = .ok (.istore 4, 2) := by decide +kernel
theorem dX8_wrongIn_5 : decode cX8_wrongIn 5 = .ok (.aload_n 0, 1) := by decide +kernel
theorem dX8_wrongIn_6 : decode cX8_wrongIn 6 = .ok (.iconst 0, 1) := by decide +kernel
theorem dX8_wrongIn_7 : decode cX8_wrongIn 7 = .ok (.putfield 180, 3) := by decide +kernel
theorem dX8_wrongIn_10 : decode cX8_wrongIn 10 = .ok (.iload_n 1, 1) := by decide +kernel
theorem dX8_wrongIn_11 : decode cX8_wrongIn 11 = .ok (.istore 5, 2) := by decide +kernel
theorem dX8_wrongIn_13 : decode cX8_wrongIn 13 = .ok (.iload 5, 2) := by decide +kernel
theorem dX8_wrongIn_15 : decode cX8_wrongIn 15 = .ok (.iload_n 2, 1) := by decide +kernel
theorem dX8_wrongIn_16 : decode cX8_wrongIn 16 = .ok (.if_icmp .ge 116, 3) := by decide +kernel
theorem dX8_wrongIn_19 : decode cX8_wrongIn 19 = .ok (.aload_n 0, 1) := by decide +kernel
theorem dX8_wrongIn_20 : decode cX8_wrongIn 20 = .ok (.getfield 13, 3) := by decide +kernel
theorem dX8_wrongIn_23 : decode cX8_wrongIn 23 = .ok (.iload 5, 2) := by decide +kernel
theorem dX8_wrongIn_25 : decode cX8_wrongIn 25 = .ok (.iaload, 1) := by decide +kernel
theorem dX8_wrongIn_26 : decode cX8_wrongIn 26 = .ok (.ifCond .ne 6, 3) := by decide +kernel
theorem dX8_wrongIn_29 : decode cX8_wrongIn 29 = .ok (.goto 97, 3) := by decide +kernel
theorem dX8_wrongIn_32 : decode cX8_wrongIn 32 = .ok (.iinc 3 1, 3) := by decide +kernel
theorem dX8_wrongIn_35 : decode cX8_wrongIn 35 = .ok (.aload_n 0, 1) := by decide +kernel
theorem dX8_wrongIn_36 : decode cX8_wrongIn 36 = .ok (.getfield 13, 3) := by decide +kernel
theorem dX8_wrongIn_39 : decode cX8_wrongIn 39 = .ok (.iload 5, 2) := by decide +kernel
theorem dX8_wrongIn_41 : decode cX8_wrongIn 41 = .ok (.iaload, 1) := by decide +kernel
theorem dX8_wrongIn_42 : decode cX8_wrongIn 42 = .ok (.iload 5, 2) := by decide +kernel
theorem dX8_wrongIn_44 : decode cX8_wrongIn 44 = .ok (.isub, 1) := by decide +kernel
theorem dX8_wrongIn_45 : decode cX8_wrongIn 45 = .ok (.istore 6, 2) := by decide +kernel
theorem dX8_wrongIn_47 : decode cX8_wrongIn 47 = .ok (.iconst 0, 1) := by decide +kernel
theorem dX8_wrongIn_48 : decode cX8_wrongIn 48 = .ok (.istore 7, 2) := by decide +kernel
theorem dX8_wrongIn_50 : decode cX8_wrongIn 50 = .ok (.iload_n 1, 1) := by decide +kernel
theorem dX8_wrongIn_51 : decode cX8_wrongIn 51 = .ok (.istore 8, 2) := by decide +kernel
theorem dX8_wrongIn_53 : decode cX8_wrongIn 53 = .ok (.iload 8, 2) := by decide +kernel
theorem dX8_wrongIn_55 : decode cX8_wrongIn 55 = .ok (.iload_n 2, 1) := by decide +kernel
theorem dX8_wrongIn_56 : decode cX8_wrongIn 56 = .ok (.if_icmp .ge 37, 3) := by decide +kernel
theorem dX8_wrongIn_59 : decode cX8_wrongIn 59 = .ok (.aload_n 0, 1) := by decide +kernel
theorem dX8_wrongIn_60 : decode cX8_wrongIn 60 = .ok (.getfield 13, 3) := by decide +kernel
theorem dX8_wrongIn_63 : decode cX8_wrongIn 63 = .ok (.iload 8, 2) := by decide +kernel
theorem dX8_wrongIn_65 : decode cX8_wrongIn 65 = .ok (.iaload, 1) := by decide +kernel
theorem dX8_wrongIn_66 : decode cX8_wrongIn 66 = .ok (.ifCond .le 21, 3) := by decide +kernel
theorem dX8_wrongIn_69 : decode cX8_wrongIn 69 = .ok (.aload_n 0, 1) := by decide +kernel
theorem dX8_wrongIn_70 : decode cX8_wrongIn 70 = .ok (.getfield 13, 3) := by decide +kernel
theorem dX8_wrongIn_73 : decode cX8_wrongIn 73 = .ok (.iload 8, 2) := by decide +kernel
theorem dX8_wrongIn_75 : decode cX8_wrongIn 75 = .ok (.iaload, 1) := by decide +kernel
theorem dX8_wrongIn_76 : decode cX8_wrongIn 76 = .ok (.iload 8, 2) := by decide +kernel
theorem dX8_wrongIn_78 : decode cX8_wrongIn 78 = .ok (.isub, 1) := by decide +kernel
theorem dX8_wrongIn_79 : decode cX8_wrongIn 79 = .ok (.iload 6, 2) := by decide +kernel
theorem dX8_wrongIn_81 : decode cX8_wrongIn 81 = .ok (.if_icmp .ne 6, 3) := by decide +kernel
theorem dX8_wrongIn_84 : decode cX8_wrongIn 84 = .ok (.iinc 7 1, 3) := by decide +kernel
theorem dX8_wrongIn_87 : decode cX8_wrongIn 87 = .ok (.iinc 8 1, 3) := by decide +kernel
theorem dX8_wrongIn_90 : decode cX8_wrongIn 90 = .ok (.goto (-37), 3) := by decide +kernel
theorem dX8_wrongIn_93 : decode cX8_wrongIn 93 = .ok (.iload 7, 2) := by decide +kernel
theorem dX8_wrongIn_95 : decode cX8_wrongIn 95 = .ok (.iload 4, 2) := by decide +kernel
theorem dX8_wrongIn_97 : decode cX8_wrongIn 97 = .ok (.if_icmp .gt 19, 3) := by decide +kernel
theorem dX8_wrongIn_100 : decode cX8_wrongIn 100 = .ok (.iload 7, 2) := by decide +kernel
theorem dX8_wrongIn_102 : decode cX8_wrongIn 102 = .ok (.iload 4, 2) := by decide +kernel
theorem dX8_wrongIn_104 : decode cX8_wrongIn 104 = .ok (.if_icmp .ne 22, 3) := by decide +kernel
theorem dX8_wrongIn_107 : decode cX8_wrongIn 107 = .ok (.iload 6, 2) := by decide +kernel
theorem dX8_wrongIn_109 : decode cX8_wrongIn 109 = .ok (.aload_n 0, 1) := by decide +kernel
theorem dX8_wrongIn_110 : decode cX8_wrongIn 110 = .ok (.getfield 180, 3) := by decide +kernel
theorem dX8_wrongIn_113 : decode cX8_wrongIn 113 = .ok (.if_icmp .ge 13, 3) := by decide +kernel
theorem dX8_wrongIn_116 : decode cX8_wrongIn 116 = .ok (.iload 7, 2) := by decide +kernel
theorem dX8_wrongIn_118 : decode cX8_wrongIn 118 = .ok (.istore 4, 2) := by decide +kernel
theorem dX8_wrongIn_120 : decode cX8_wrongIn 120 = .ok (.aload_n 0, 1) := by decide +kernel
theorem dX8_wrongIn_121 : decode cX8_wrongIn 121 = .ok (.iload 6, 2) := by decide +kernel
theorem dX8_wrongIn_123 : decode cX8_wrongIn 123 = .ok (.putfield 180, 3) := by decide +kernel
theorem dX8_wrongIn_126 : decode cX8_wrongIn 126 = .ok (.iinc 5 1, 3) := by decide +kernel
theorem dX8_wrongIn_129 : decode cX8_wrongIn 129 = .ok (.goto (-116), 3) := by decide +kernel
theorem dX8_wrongIn_132 : decode cX8_wrongIn 132 = .ok (.iload_n 3, 1) := by decide +kernel
theorem dX8_wrongIn_133 : decode cX8_wrongIn 133 = .ok (.iload 4, 2) := by decide +kernel
theorem dX8_wrongIn_135 : decode cX8_wrongIn 135 = .ok (.isub, 1) := by decide +kernel
theorem dX8_wrongIn_136 : decode cX8_wrongIn 136 = .ok (.ireturn, 1) := by decide +kernel
theorem dX8_findShifts_0 : decode cX8_findShifts 0 = .ok (.aload_n 0, 1) := by decide +kernel
theorem dX8_findShifts_1 : decode cX8_findShifts 1 = .ok (.getfield 73, 3) := by decide +kernel
theorem dX8_findShifts_4 : decode cX8_findShifts 4 = .ok (.aload_n 0, 1) := by decide +kernel
theorem dX8_findShifts_5 : decode cX8_findShifts 5 = .ok (.getfield 9, 3) := by decide +kernel
theorem dX8_findShifts_8 : decode cX8_findShifts 8 = .ok (.iconst 0, 1) := by decide +kernel
theorem dX8_findShifts_9 : decode cX8_findShifts 9 = .ok (.iastore, 1) := by decide +kernel
theorem dX8_findShifts_10 : decode cX8_findShifts 10 = .ok (.aload_n 0, 1) := by decide +kernel
theorem dX8_findShifts_11 : decode cX8_findShifts 11 = .ok (.getfield 76, 3) := by decide +kernel
theorem dX8_findShifts_14 : decode cX8_findShifts 14 = .ok (.aload_n 0, 1) := by decide +kernel
theorem dX8_findShifts_15 : decode cX8_findShifts 15 = .ok (.getfield 9, 3) := by decide +kernel
theorem dX8_findShifts_18 : decode cX8_findShifts 18 = .ok (.iconst 0, 1) := by decide +kernel
theorem dX8_findShifts_19 : decode cX8_findShifts 19 = .ok (.iastore, 1) := by decide +kernel
theorem dX8_findShifts_20 : decode cX8_findShifts 20 = .ok (.aload_n 0, 1) := by decide +kernel
theorem dX8_findShifts_21 : decode cX8_findShifts 21 = .ok (.getfield 9, 3) := by decide +kernel
theorem dX8_findShifts_24 : decode cX8_findShifts 24 = .ok (.iconst 1, 1) := by decide +kernel
theorem dX8_findShifts_25 : decode cX8_findShifts 25 = .ok (.isub, 1) := by decide +kernel
theorem dX8_findShifts_26 : decode cX8_findShifts 26 = .ok (.istore_n 1, 1) := by decide +kernel
theorem dX8_findShifts_27 : decode cX8_findShifts 27 = .ok (.iload_n 1, 1) := by decide +kernel
theorem dX8_findShifts_28 : decode cX8_findShifts 28 = .ok (.ifCond .lt 129, 3) := by decide +kernel
theorem dX8_findShifts_31 : decode cX8_findShifts 31 = .ok (.aload_n 0, 1) := by decide +kernel
theorem dX8_findShifts_32 : decode cX8_findShifts 32 = .ok (.getfield 73, 3) := by decide +kernel
theorem dX8_findShifts_35 : decode cX8_findShifts 35 = .ok (.iload_n 1, 1) := by decide +kernel
theorem dX8_findShifts_36 : decode cX8_findShifts 36 = .ok (.ldc 148, 2) := by decide +kernel
theorem dX8_findShifts_38 : decode cX8_findShifts 38 = .ok (.iastore, 1) := by decide +kernel
theorem dX8_findShifts_39 : decode cX8_findShifts 39 = .ok (.aload_n 0, 1) := by decide +kernel
theorem dX8_findShifts_40 : decode cX8_findShifts 40 = .ok (.getfield 9, 3) := by decide +kernel
theorem dX8_findShifts_43 : decode cX8_findShifts 43 = .ok (.istore_n 2, 1) := by decide +kernel
theorem dX8_findShifts_44 : decode cX8_findShifts 44 = .ok (.iload_n 2, 1) := by decide +kernel
theorem dX8_findShifts_45 : decode cX8_findShifts 45 = .ok (.iload_n 1, 1) := by decide +kernel
theorem dX8_findShifts_46 : decode cX8_findShifts 46 = .ok (.if_icmp .le 105, 3) := by decide +kernel
theorem dX8_findShifts_49 : decode cX8_findShifts 49 = .ok (.aload_n 0, 1) := by decide +kernel
theorem dX8_findShifts_50 : decode cX8_findShifts 50 = .ok (.getfield 39, 3) := by decide +kernel
theorem dX8_findShifts_53 : decode cX8_findShifts 53 = .ok (.bipush 8, 2) := by decide +kernel
theorem dX8_findShifts_55 : decode cX8_findShifts 55 = .ok (.iaload, 1) := by decide +kernel
theorem dX8_findShifts_56 : decode cX8_findShifts 56 = .ok (.aload_n 0, 1) := by decide +kernel
theorem dX8_findShifts_57 : decode cX8_findShifts 57 = .ok (.getfield 39, 3) := by decide +kernel
theorem dX8_findShifts_60 : decode cX8_findShifts 60 = .ok (.bipush 9, 2) := by decide +kernel
theorem dX8_findShifts_62 : decode cX8_findShifts 62 = .ok (.iaload, 1) := by decide +kernel
theorem dX8_findShifts_63 : decode cX8_findShifts 63 = .ok (.aload_n 0, 1) := by decide +kernel
theorem dX8_findShifts_64 : decode cX8_findShifts 64 = .ok (.iload_n 1, 1) := by decide +kernel
theorem dX8_findShifts_65 : decode cX8_findShifts 65 = .ok (.iload_n 2, 1) := by decide +kernel
theorem dX8_findShifts_66 : decode cX8_findShifts 66 = .ok (.invokevirtual 183, 3) := by decide +kernel
theorem dX8_findShifts_69 : decode cX8_findShifts 69 = .ok (.imul, 1) := by decide +kernel
theorem dX8_findShifts_70 : decode cX8_findShifts 70 = .ok (.iadd, 1) := by decide +kernel
theorem dX8_findShifts_71 : decode cX8_findShifts 71 = .ok (.aload_n 0, 1) := by decide +kernel
theorem dX8_findShifts_72 : decode cX8_findShifts 72 = .ok (.getfield 73, 3) := by decide +kernel
theorem dX8_findShifts_75 : decode cX8_findShifts 75 = .ok (.iload_n 2, 1) := by decide +kernel
theorem dX8_findShifts_76 : decode cX8_findShifts 76 = .ok (.iaload, 1) := by decide +kernel
theorem dX8_findShifts_77 : decode cX8_findShifts 77 = .ok (.iadd, 1) := by decide +kernel
theorem dX8_findShifts_78 : decode cX8_findShifts 78 = .ok (.istore_n 3, 1) := by decide +kernel
theorem dX8_findShifts_79 : decode cX8_findShifts 79 = .ok (.iconst 1, 1) := by decide +kernel
theorem dX8_findShifts_80 : decode cX8_findShifts 80 = .ok (.aload_n 0, 1) := by decide +kernel
theorem dX8_findShifts_81 : decode cX8_findShifts 81 = .ok (.getfield 76, 3) := by decide +kernel
theorem dX8_findShifts_84 : decode cX8_findShifts 84 = .ok (.iload_n 2, 1) := by decide +kernel
theorem dX8_findShifts_85 : decode cX8_findShifts 85 = .ok (.iaload, 1) := by decide +kernel
theorem dX8_findShifts_86 : decode cX8_findShifts 86 = .ok (.iadd, 1) := by decide +kernel
theorem dX8_findShifts_87 : decode cX8_findShifts 87 = .ok (.istore 4, 2) := by decide +kernel
theorem dX8_findShifts_89 : decode cX8_findShifts 89 = .ok (.iload_n 3, 1) := by decide +kernel
theorem dX8_findShifts_90 : decode cX8_findShifts 90 = .ok (.aload_n 0, 1) := by decide +kernel
theorem dX8_findShifts_91 : decode cX8_findShifts 91 = .ok (.getfield 73, 3) := by decide +kernel
theorem dX8_findShifts_94 : decode cX8_findShifts 94 = .ok (.iload_n 1, 1) := by decide +kernel
theorem dX8_findShifts_95 : decode cX8_findShifts 95 = .ok (.iaload, 1) := by decide +kernel
theorem dX8_findShifts_96 : decode cX8_findShifts 96 = .ok (.if_icmp .gt 49, 3) := by decide +kernel
theorem dX8_findShifts_99 : decode cX8_findShifts 99 = .ok (.iload_n 3, 1) := by decide +kernel
theorem dX8_findShifts_100 : decode cX8_findShifts 100 = .ok (.aload_n 0, 1) := by decide +kernel
theorem dX8_findShifts_101 : decode cX8_findShifts 101 = .ok (.getfield 73, 3) := by decide +kernel
theorem dX8_findShifts_104 : decode cX8_findShifts 104 = .ok (.iload_n 1, 1) := by decide +kernel
theorem dX8_findShifts_105 : decode cX8_findShifts 105 = .ok (.iaload, 1) := by decide +kernel
theorem dX8_findShifts_106 : decode cX8_findShifts 106 = .ok (.if_icmp .ne 17, 3) := by decide +kernel
theorem dX8_findShifts_109 : decode cX8_findShifts 109 = .ok (.iload 4, 2) := by decide +kernel
theorem dX8_findShifts_111 : decode cX8_findShifts 111 = .ok (.aload_n 0, 1) := by decide +kernel
theorem dX8_findShifts_112 : decode cX8_findShifts 112 = .ok (.getfield 76, 3) := by decide +kernel
theorem dX8_findShifts_115 : decode cX8_findShifts 115 = .ok (.iload_n 1, 1) := by decide +kernel
theorem dX8_findShifts_116 : decode cX8_findShifts 116 = .ok (.iaload, 1) := by decide +kernel
theorem dX8_findShifts_117 : decode cX8_findShifts 117 = .ok (.if_icmp .lt 6, 3) := by decide +kernel
theorem dX8_findShifts_120 : decode cX8_findShifts 120 = .ok (.goto 25, 3) := by decide +kernel
theorem dX8_findShifts_123 : decode cX8_findShifts 123 = .ok (.aload_n 0, 1) := by decide +kernel
theorem dX8_findShifts_124 : decode cX8_findShifts 124 = .ok (.getfield 73, 3) := by decide +kernel
theorem dX8_findShifts_127 : decode cX8_findShifts 127 = .ok (.iload_n 1, 1) := by decide +kernel
theorem dX8_findShifts_128 : decode cX8_findShifts 128 = .ok (.iload_n 3, 1) := by decide +kernel
theorem dX8_findShifts_129 : decode cX8_findShifts 129 = .ok (.iastore, 1) := by decide +kernel
theorem dX8_findShifts_130 : decode cX8_findShifts 130 = .ok (.aload_n 0, 1) := by decide +kernel
theorem dX8_findShifts_131 : decode cX8_findShifts 131 = .ok (.getfield 76, 3) := by decide +kernel
theorem dX8_findShifts_134 : decode cX8_findShifts 134 = .ok (.iload_n 1, 1) := by decide +kernel
theorem dX8_findShifts_135 : decode cX8_findShifts 135 = .ok (.iload 4, 2) := by decide +kernel
theorem dX8_findShifts_137 : decode cX8_findShifts 137 = .ok (.iastore, 1) := by decide +kernel
theorem dX8_findShifts_138 : decode cX8_findShifts 138 = .ok (.aload_n 0, 1) := by decide +kernel
theorem dX8_findShifts_139 : decode cX8_findShifts 139 = .ok (.getfield 79, 3) := by decide +kernel
theorem dX8_findShifts_142 : decode cX8_findShifts 142 = .ok (.iload_n 1, 1) := by decide +kernel
theorem dX8_findShifts_143 : decode cX8_findShifts 143 = .ok (.iload_n 2, 1) := by decide +kernel
theorem dX8_findShifts_144 : decode cX8_findShifts 144 = .ok (.iastore, 1) := by decide +kernel
theorem dX8_findShifts_145 : decode cX8_findShifts 145 = .ok (.iinc 2 (-1), 3) := by decide +kernel
theorem dX8_findShifts_148 : decode cX8_findShifts 148 = .ok (.goto (-104), 3) := by decide +kernel
theorem dX8_findShifts_151 : decode cX8_findShifts 151 = .ok (.iinc 1 (-1), 3) := by decide +kernel
theorem dX8_findShifts_154 : decode cX8_findShifts 154 = .ok (.goto (-127), 3) := by decide +kernel
theorem dX8_findShifts_157 : decode cX8_findShifts 157 = .ok (.iconst 0, 1) := by decide +kernel
theorem dX8_findShifts_158 : decode cX8_findShifts 158 = .ok (.istore_n 1, 1) := by decide +kernel
theorem dX8_findShifts_159 : decode cX8_findShifts 159 = .ok (.iload_n 1, 1) := by decide +kernel
theorem dX8_findShifts_160 : decode cX8_findShifts 160 = .ok (.aload_n 0, 1) := by decide +kernel
theorem dX8_findShifts_161 : decode cX8_findShifts 161 = .ok (.getfield 9, 3) := by decide +kernel
theorem dX8_findShifts_164 : decode cX8_findShifts 164 = .ok (.if_icmp .ge 60, 3) := by decide +kernel
theorem dX8_findShifts_167 : decode cX8_findShifts 167 = .ok (.aload_n 0, 1) := by decide +kernel
theorem dX8_findShifts_168 : decode cX8_findShifts 168 = .ok (.iload_n 1, 1) := by decide +kernel
theorem dX8_findShifts_169 : decode cX8_findShifts 169 = .ok (.aload_n 0, 1) := by decide +kernel
theorem dX8_findShifts_170 : decode cX8_findShifts 170 = .ok (.getfield 79, 3) := by decide +kernel
theorem dX8_findShifts_173 : decode cX8_findShifts 173 = .ok (.iload_n 1, 1) := by decide +kernel
theorem dX8_findShifts_174 : decode cX8_findShifts 174 = .ok (.iaload, 1) := by decide +kernel
theorem dX8_findShifts_175 : decode cX8_findShifts 175 = .ok (.invokevirtual 183, 3) := by decide +kernel
theorem dX8_findShifts_178 : decode cX8_findShifts 178 = .ok (.pop, 1) := by decide +kernel
theorem dX8_findShifts_179 : decode cX8_findShifts 179 = .ok (.iload_n 1, 1) := by decide +kernel
theorem dX8_findShifts_180 : decode cX8_findShifts 180 = .ok (.istore_n 2, 1) := by decide +kernel
theorem dX8_findShifts_181 : decode cX8_findShifts 181 = .ok (.iload_n 2, 1) := by decide +kernel
theorem dX8_findShifts_182 : decode cX8_findShifts 182 = .ok (.aload_n 0, 1) := by decide +kernel
theorem dX8_findShifts_183 : decode cX8_findShifts 183 = .ok (.getfield 79, 3) := by decide +kernel
theorem dX8_findShifts_186 : decode cX8_findShifts 186 = .ok (.iload_n 1, 1) := by decide +kernel
theorem dX8_findShifts_187 : decode cX8_findShifts 187 = .ok (.iaload, 1) := by decide +kernel
theorem dX8_findShifts_188 : decode cX8_findShifts 188 = .ok (.if_icmp .ge 26, 3) := by decide +kernel
theorem dX8_findShifts_191 : decode cX8_findShifts 191 = .ok (.aload_n 0, 1) := by decide +kernel
theorem dX8_findShifts_192 : decode cX8_findShifts 192 = .ok (.getfield 82, 3) := by decide +kernel
theorem dX8_findShifts_195 : decode cX8_findShifts 195 = .ok (.iload_n 2, 1) := by decide +kernel
theorem dX8_findShifts_196 : decode cX8_findShifts 196 = .ok (.iload_n 1, 1) := by decide +kernel
theorem dX8_findShifts_197 : decode cX8_findShifts 197 = .ok (.iastore, 1) := by decide +kernel
theorem dX8_findShifts_198 : decode cX8_findShifts 198 = .ok (.aload_n 0, 1) := by decide +kernel
theorem dX8_findShifts_199 : decode cX8_findShifts 199 = .ok (.getfield 85, 3) := by decide +kernel
theorem dX8_findShifts_202 : decode cX8_findShifts 202 = .ok (.iload_n 2, 1) := by decide +kernel
theorem dX8_findShifts_203 : decode cX8_findShifts 203 = .ok (.aload_n 0, 1) := by decide +kernel
theorem dX8_findShifts_204 : decode cX8_findShifts 204 = .ok (.getfield 180, 3) := by decide +kernel
theorem dX8_findShifts_207 : decode cX8_findShifts 207 = .ok (.iastore, 1) := by decide +kernel
theorem dX8_findShifts_208 : decode cX8_findShifts 208 = .ok (.iinc 2 1, 3) := by decide +kernel
theorem dX8_findShifts_211 : decode cX8_findShifts 211 = .ok (.goto (-30), 3) := by decide +kernel
theorem dX8_findShifts_214 : decode cX8_findShifts 214 = .ok (.aload_n 0, 1) := by decide +kernel
theorem dX8_findShifts_215 : decode cX8_findShifts 215 = .ok (.getfield 79, 3) := by decide +kernel
theorem dX8_findShifts_218 : decode cX8_findShifts 218 = .ok (.iload_n 1, 1) := by decide +kernel
theorem dX8_findShifts_219 : decode cX8_findShifts 219 = .ok (.iaload, 1) := by decide +kernel
theorem dX8_findShifts_220 : decode cX8_findShifts 220 = .ok (.istore_n 1, 1) := by decide +kernel
theorem dX8_findShifts_221 : decode cX8_findShifts 221 = .ok (.goto (-62), 3) := by decide +kernel
theorem dX8_findShifts_224 : decode cX8_findShifts 224 = .ok (.return_, 1) := by decide +kernel
theorem dX8_find_0 : decode cX8_find 0 = .ok (.aload_n 0, 1) := by decide +kernel
theorem dX8_find_1 : decode cX8_find 1 = .ok (.getfield 107, 3) := by decide +kernel
theorem dX8_find_4 : decode cX8_find 4 = .ok (.ifCond .eq 4, 3) := by decide +kernel
theorem dX8_find_7 : decode cX8_find 7 = .ok (.return_, 1) := by decide +kernel
theorem dX8_find_8 : decode cX8_find 8 = .ok (.aload_n 0, 1) := by decide +kernel
theorem dX8_find_9 : decode cX8_find 9 = .ok (.iconst 1, 1) := by decide +kernel
theorem dX8_find_10 : decode cX8_find 10 = .ok (.putfield 107, 3) := by decide +kernel
theorem dX8_find_13 : decode cX8_find 13 = .ok (.aload_n 0, 1) := by decide +kernel
theorem dX8_find_14 : decode cX8_find 14 = .ok (.invokevirtual 186, 3) := by decide +kernel
theorem dX8_find_17 : decode cX8_find 17 = .ok (.aload_n 0, 1) := by decide +kernel
theorem dX8_find_18 : decode cX8_find 18 = .ok (.invokevirtual 189, 3) := by decide +kernel
theorem dX8_find_21 : decode cX8_find 21 = .ok (.aload_n 0, 1) := by decide +kernel
theorem dX8_find_22 : decode cX8_find 22 = .ok (.invokevirtual 192, 3) := by decide +kernel
theorem dX8_find_25 : decode cX8_find 25 = .ok (.return_, 1) := by decide +kernel
theorem dX8_isWrong_0 : decode cX8_isWrong 0 = .ok (.aload_n 0, 1) := by decide +kernel
theorem dX8_isWrong_1 : decode cX8_isWrong 1 = .ok (.getfield 13, 3) := by decide +kernel
theorem dX8_isWrong_4 : decode cX8_isWrong 4 = .ok (.iload_n 1, 1) := by decide +kernel
theorem dX8_isWrong_5 : decode cX8_isWrong 5 = .ok (.iaload, 1) := by decide +kernel
theorem dX8_isWrong_6 : decode cX8_isWrong 6 = .ok (.ifCond .le 24, 3) := by decide +kernel
theorem dX8_isWrong_9 : decode cX8_isWrong 9 = .ok (.aload_n 0, 1) := by decide +kernel
theorem dX8_isWrong_10 : decode cX8_isWrong 10 = .ok (.getfield 13, 3) := by decide +kernel
theorem dX8_isWrong_13 : decode cX8_isWrong 13 = .ok (.iload_n 1, 1) := by decide +kernel
theorem dX8_isWrong_14 : decode cX8_isWrong 14 = .ok (.iaload, 1) := by decide +kernel
theorem dX8_isWrong_15 : decode cX8_isWrong 15 = .ok (.iload_n 1, 1) := by decide +kernel
theorem dX8_isWrong_16 : decode cX8_isWrong 16 = .ok (.aload_n 0, 1) := by decide +kernel
theorem dX8_isWrong_17 : decode cX8_isWrong 17 = .ok (.getfield 85, 3) := by decide +kernel
theorem dX8_isWrong_20 : decode cX8_isWrong 20 = .ok (.iload_n 1, 1) := by decide +kernel
theorem dX8_isWrong_21 : decode cX8_isWrong 21 = .ok (.iaload, 1) := by decide +kernel
theorem dX8_isWrong_22 : decode cX8_isWrong 22 = .ok (.iadd, 1) := by decide +kernel
theorem dX8_isWrong_23 : decode cX8_isWrong 23 = .ok (.if_icmp .eq 7, 3) := by decide +kernel
theorem dX8_isWrong_26 : decode cX8_isWrong 26 = .ok (.iconst 1, 1) := by decide +kernel
theorem dX8_isWrong_27 : decode cX8_isWrong 27 = .ok (.goto 4, 3) := by decide +kernel
theorem dX8_isWrong_30 : decode cX8_isWrong 30 = .ok (.iconst 0, 1) := by decide +kernel
theorem dX8_isWrong_31 : decode cX8_isWrong 31 = .ok (.ireturn, 1) := by decide +kernel
theorem dX8_count_0 : decode cX8_count 0 = .ok (.aload_n 0, 1) := by decide +kernel
theorem dX8_count_1 : decode cX8_count 1 = .ok (.iconst 0, 1) := by decide +kernel
theorem dX8_count_2 : decode cX8_count 2 = .ok (.putfield 94, 3) := by decide +kernel
theorem dX8_count_5 : decode cX8_count 5 = .ok (.aload_n 0, 1) := by decide +kernel
theorem dX8_count_6 : decode cX8_count 6 = .ok (.invokevirtual 195, 3) := by decide +kernel
theorem dX8_count_9 : decode cX8_count 9 = .ok (.iconst 0, 1) := by decide +kernel
theorem dX8_count_10 : decode cX8_count 10 = .ok (.istore_n 2, 1) := by decide +kernel
theorem dX8_count_11 : decode cX8_count 11 = .ok (.iload_n 1, 1) := by decide +kernel
theorem dX8_count_12 : decode cX8_count 12 = .ok (.tableswitch 127 0 8 #[52, 57, 62, 67, 72, 77, 84, 91, 98], 52) := by decide +kernel
theorem dX8_count_64 : decode cX8_count 64 = .ok (.aload_n 0, 1) := by decide +kernel
theorem dX8_count_65 : decode cX8_count 65 = .ok (.getfield 9, 3) := by decide +kernel
theorem dX8_count_68 : decode cX8_count 68 = .ok (.ireturn, 1) := by decide +kernel
theorem dX8_count_69 : decode cX8_count 69 = .ok (.aload_n 0, 1) := by decide +kernel
theorem dX8_count_70 : decode cX8_count 70 = .ok (.getfield 97, 3) := by decide +kernel
theorem dX8_count_73 : decode cX8_count 73 = .ok (.ireturn, 1) := by decide +kernel
theorem dX8_count_74 : decode cX8_count 74 = .ok (.aload_n 0, 1) := by decide +kernel
theorem dX8_count_75 : decode cX8_count 75 = .ok (.getfield 104, 3) := by decide +kernel
theorem dX8_count_78 : decode cX8_count 78 = .ok (.ireturn, 1) := by decide +kernel
theorem dX8_count_79 : decode cX8_count 79 = .ok (.aload_n 0, 1) := by decide +kernel
theorem dX8_count_80 : decode cX8_count 80 = .ok (.getfield 171, 3) := by decide +kernel
theorem dX8_count_83 : decode cX8_count 83 = .ok (.ireturn, 1) := by decide +kernel
theorem dX8_count_84 : decode cX8_count 84 = .ok (.aload_n 0, 1) := by decide +kernel
theorem dX8_count_85 : decode cX8_count 85 = .ok (.getfield 168, 3) := by decide +kernel
theorem dX8_count_88 : decode cX8_count 88 = .ok (.ireturn, 1) := by decide +kernel
theorem dX8_count_89 : decode cX8_count 89 = .ok (.aload_n 0, 1) := by decide +kernel
theorem dX8_count_90 : decode cX8_count 90 = .ok (.getfield 67, 3) := by decide +kernel
theorem dX8_count_93 : decode cX8_count 93 = .ok (.iconst 0, 1) := by decide +kernel
theorem dX8_count_94 : decode cX8_count 94 = .ok (.iaload, 1) := by decide +kernel
theorem dX8_count_95 : decode cX8_count 95 = .ok (.ireturn, 1) := by decide +kernel
theorem dX8_count_96 : decode cX8_count 96 = .ok (.aload_n 0, 1) := by decide +kernel
theorem dX8_count_97 : decode cX8_count 97 = .ok (.getfield 73, 3) := by decide +kernel
theorem dX8_count_100 : decode cX8_count 100 = .ok (.iconst 0, 1) := by decide +kernel
theorem dX8_count_101 : decode cX8_count 101 = .ok (.iaload, 1) := by decide +kernel
theorem dX8_count_102 : decode cX8_count 102 = .ok (.ireturn, 1) := by decide +kernel
theorem dX8_count_103 : decode cX8_count 103 = .ok (.aload_n 0, 1) := by decide +kernel
theorem dX8_count_104 : decode cX8_count 104 = .ok (.getfield 76, 3) := by decide +kernel
theorem dX8_count_107 : decode cX8_count 107 = .ok (.iconst 0, 1) := by decide +kernel
theorem dX8_count_108 : decode cX8_count 108 = .ok (.iaload, 1) := by decide +kernel
theorem dX8_count_109 : decode cX8_count 109 = .ok (.ireturn, 1) := by decide +kernel
theorem dX8_count_110 : decode cX8_count 110 = .ok (.iconst 0, 1) := by decide +kernel
theorem dX8_count_111 : decode cX8_count 111 = .ok (.istore_n 3, 1) := by decide +kernel
theorem dX8_count_112 : decode cX8_count 112 = .ok (.iload_n 3, 1) := by decide +kernel
theorem dX8_count_113 : decode cX8_count 113 = .ok (.aload_n 0, 1) := by decide +kernel
theorem dX8_count_114 : decode cX8_count 114 = .ok (.getfield 9, 3) := by decide +kernel
theorem dX8_count_117 : decode cX8_count 117 = .ok (.if_icmp .ge 20, 3) := by decide +kernel
theorem dX8_count_120 : decode cX8_count 120 = .ok (.aload_n 0, 1) := by decide +kernel
theorem dX8_count_121 : decode cX8_count 121 = .ok (.iload_n 3, 1) := by decide +kernel
theorem dX8_count_122 : decode cX8_count 122 = .ok (.invokevirtual 198, 3) := by decide +kernel
theorem dX8_count_125 : decode cX8_count 125 = .ok (.ifCond .eq 6, 3) := by decide +kernel
theorem dX8_count_128 : decode cX8_count 128 = .ok (.iinc 2 1, 3) := by decide +kernel
theorem dX8_count_131 : decode cX8_count 131 = .ok (.iinc 3 1, 3) := by decide +kernel
theorem dX8_count_134 : decode cX8_count 134 = .ok (.goto (-22), 3) := by decide +kernel
theorem dX8_count_137 : decode cX8_count 137 = .ok (.iload_n 2, 1) := by decide +kernel
theorem dX8_count_138 : decode cX8_count 138 = .ok (.ireturn, 1) := by decide +kernel
theorem dX8_count_139 : decode cX8_count 139 = .ok (.iconst (-1), 1) := by decide +kernel
theorem dX8_count_140 : decode cX8_count 140 = .ok (.ireturn, 1) := by decide +kernel
theorem dX8_endOf_0 : decode cX8_endOf 0 = .ok (.aload_n 0, 1) := by decide +kernel
theorem dX8_endOf_1 : decode cX8_endOf 1 = .ok (.getfield 58, 3) := by decide +kernel
theorem dX8_endOf_4 : decode cX8_endOf 4 = .ok (.iload_n 1, 1) := by decide +kernel
theorem dX8_endOf_5 : decode cX8_endOf 5 = .ok (.iaload, 1) := by decide +kernel
theorem dX8_endOf_6 : decode cX8_endOf 6 = .ok (.ifCond .ne 5, 3) := by decide +kernel
theorem dX8_endOf_9 : decode cX8_endOf 9 = .ok (.iconst (-1), 1) := by decide +kernel
theorem dX8_endOf_10 : decode cX8_endOf 10 = .ok (.ireturn, 1) := by decide +kernel
theorem dX8_endOf_11 : decode cX8_endOf 11 = .ok (.iload_n 1, 1) := by decide +kernel
theorem dX8_endOf_12 : decode cX8_endOf 12 = .ok (.iconst 1, 1) := by decide +kernel
theorem dX8_endOf_13 : decode cX8_endOf 13 = .ok (.iadd, 1) := by decide +kernel
theorem dX8_endOf_14 : decode cX8_endOf 14 = .ok (.istore_n 2, 1) := by decide +kernel
theorem dX8_endOf_15 : decode cX8_endOf 15 = .ok (.iload_n 2, 1) := by decide +kernel
theorem dX8_endOf_16 : decode cX8_endOf 16 = .ok (.aload_n 0, 1) := by decide +kernel
theorem dX8_endOf_17 : decode cX8_endOf 17 = .ok (.getfield 97, 3) := by decide +kernel
theorem dX8_endOf_20 : decode cX8_endOf 20 = .ok (.if_icmp .ge 40, 3) := by decide +kernel
theorem dX8_endOf_23 : decode cX8_endOf 23 = .ok (.aload_n 0, 1) := by decide +kernel
theorem dX8_endOf_24 : decode cX8_endOf 24 = .ok (.getfield 58, 3) := by decide +kernel
theorem dX8_endOf_27 : decode cX8_endOf 27 = .ok (.iload_n 2, 1) := by decide +kernel
theorem dX8_endOf_28 : decode cX8_endOf 28 = .ok (.iaload, 1) := by decide +kernel
theorem dX8_endOf_29 : decode cX8_endOf 29 = .ok (.ifCond .le 25, 3) := by decide +kernel
theorem dX8_endOf_32 : decode cX8_endOf 32 = .ok (.aload_n 0, 1) := by decide +kernel
theorem dX8_endOf_33 : decode cX8_endOf 33 = .ok (.getfield 58, 3) := by decide +kernel
theorem dX8_endOf_36 : decode cX8_endOf 36 = .ok (.iload_n 2, 1) := by decide +kernel
theorem dX8_endOf_37 : decode cX8_endOf 37 = .ok (.iaload, 1) := by decide +kernel
theorem dX8_endOf_38 : decode cX8_endOf 38 = .ok (.aload_n 0, 1) := by decide +kernel
theorem dX8_endOf_39 : decode cX8_endOf 39 = .ok (.getfield 58, 3) := by decide +kernel
theorem dX8_endOf_42 : decode cX8_endOf 42 = .ok (.iload_n 1, 1) := by decide +kernel
theorem dX8_endOf_43 : decode cX8_endOf 43 = .ok (.iaload, 1) := by decide +kernel
theorem dX8_endOf_44 : decode cX8_endOf 44 = .ok (.if_icmp .gt 10, 3) := by decide +kernel
theorem dX8_endOf_47 : decode cX8_endOf 47 = .ok (.aload_n 0, 1) := by decide +kernel
theorem dX8_endOf_48 : decode cX8_endOf 48 = .ok (.getfield 17, 3) := by decide +kernel
theorem dX8_endOf_51 : decode cX8_endOf 51 = .ok (.iload_n 2, 1) := by decide +kernel
theorem dX8_endOf_52 : decode cX8_endOf 52 = .ok (.iaload, 1) := by decide +kernel
theorem dX8_endOf_53 : decode cX8_endOf 53 = .ok (.ireturn, 1) := by decide +kernel
theorem dX8_endOf_54 : decode cX8_endOf 54 = .ok (.iinc 2 1, 3) := by decide +kernel
theorem dX8_endOf_57 : decode cX8_endOf 57 = .ok (.goto (-42), 3) := by decide +kernel
theorem dX8_endOf_60 : decode cX8_endOf 60 = .ok (.aload_n 0, 1) := by decide +kernel
theorem dX8_endOf_61 : decode cX8_endOf 61 = .ok (.getfield 9, 3) := by decide +kernel
theorem dX8_endOf_64 : decode cX8_endOf 64 = .ok (.iconst 1, 1) := by decide +kernel
theorem dX8_endOf_65 : decode cX8_endOf 65 = .ok (.isub, 1) := by decide +kernel
theorem dX8_endOf_66 : decode cX8_endOf 66 = .ok (.ireturn, 1) := by decide +kernel
theorem dX8_aboveOf_0 : decode cX8_aboveOf 0 = .ok (.aload_n 0, 1) := by decide +kernel
theorem dX8_aboveOf_1 : decode cX8_aboveOf 1 = .ok (.getfield 58, 3) := by decide +kernel
theorem dX8_aboveOf_4 : decode cX8_aboveOf 4 = .ok (.iload_n 1, 1) := by decide +kernel
theorem dX8_aboveOf_5 : decode cX8_aboveOf 5 = .ok (.iaload, 1) := by decide +kernel
theorem dX8_aboveOf_6 : decode cX8_aboveOf 6 = .ok (.ifCond .ne 5, 3) := by decide +kernel
theorem dX8_aboveOf_9 : decode cX8_aboveOf 9 = .ok (.iconst (-1), 1) := by decide +kernel
theorem dX8_aboveOf_10 : decode cX8_aboveOf 10 = .ok (.ireturn, 1) := by decide +kernel
theorem dX8_aboveOf_11 : decode cX8_aboveOf 11 = .ok (.iload_n 1, 1) := by decide +kernel
theorem dX8_aboveOf_12 : decode cX8_aboveOf 12 = .ok (.iconst 1, 1) := by decide +kernel
theorem dX8_aboveOf_13 : decode cX8_aboveOf 13 = .ok (.isub, 1) := by decide +kernel
theorem dX8_aboveOf_14 : decode cX8_aboveOf 14 = .ok (.istore_n 2, 1) := by decide +kernel
theorem dX8_aboveOf_15 : decode cX8_aboveOf 15 = .ok (.iload_n 2, 1) := by decide +kernel
theorem dX8_aboveOf_16 : decode cX8_aboveOf 16 = .ok (.ifCond .lt 35, 3) := by decide +kernel
theorem dX8_aboveOf_19 : decode cX8_aboveOf 19 = .ok (.aload_n 0, 1) := by decide +kernel
theorem dX8_aboveOf_20 : decode cX8_aboveOf 20 = .ok (.getfield 58, 3) := by decide +kernel
theorem dX8_aboveOf_23 : decode cX8_aboveOf 23 = .ok (.iload_n 2, 1) := by decide +kernel
theorem dX8_aboveOf_24 : decode cX8_aboveOf 24 = .ok (.iaload, 1) := by decide +kernel
theorem dX8_aboveOf_25 : decode cX8_aboveOf 25 = .ok (.ifCond .le 20, 3) := by decide +kernel
theorem dX8_aboveOf_28 : decode cX8_aboveOf 28 = .ok (.aload_n 0, 1) := by decide +kernel
theorem dX8_aboveOf_29 : decode cX8_aboveOf 29 = .ok (.getfield 58, 3) := by decide +kernel
theorem dX8_aboveOf_32 : decode cX8_aboveOf 32 = .ok (.iload_n 2, 1) := by decide +kernel
theorem dX8_aboveOf_33 : decode cX8_aboveOf 33 = .ok (.iaload, 1) := by decide +kernel
theorem dX8_aboveOf_34 : decode cX8_aboveOf 34 = .ok (.aload_n 0, 1) := by decide +kernel
theorem dX8_aboveOf_35 : decode cX8_aboveOf 35 = .ok (.getfield 58, 3) := by decide +kernel
theorem dX8_aboveOf_38 : decode cX8_aboveOf 38 = .ok (.iload_n 1, 1) := by decide +kernel
theorem dX8_aboveOf_39 : decode cX8_aboveOf 39 = .ok (.iaload, 1) := by decide +kernel
theorem dX8_aboveOf_40 : decode cX8_aboveOf 40 = .ok (.if_icmp .ge 5, 3) := by decide +kernel
theorem dX8_aboveOf_43 : decode cX8_aboveOf 43 = .ok (.iload_n 2, 1) := by decide +kernel
theorem dX8_aboveOf_44 : decode cX8_aboveOf 44 = .ok (.ireturn, 1) := by decide +kernel
theorem dX8_aboveOf_45 : decode cX8_aboveOf 45 = .ok (.iinc 2 (-1), 3) := by decide +kernel
theorem dX8_aboveOf_48 : decode cX8_aboveOf 48 = .ok (.goto (-33), 3) := by decide +kernel
theorem dX8_aboveOf_51 : decode cX8_aboveOf 51 = .ok (.iconst (-1), 1) := by decide +kernel
theorem dX8_aboveOf_52 : decode cX8_aboveOf 52 = .ok (.ireturn, 1) := by decide +kernel
theorem dX8_partnerOfLine_0 : decode cX8_partnerOfLine 0 = .ok (.iconst 0, 1) := by decide +kernel
theorem dX8_partnerOfLine_1 : decode cX8_partnerOfLine 1 = .ok (.istore_n 2, 1) := by decide +kernel
theorem dX8_partnerOfLine_2 : decode cX8_partnerOfLine 2 = .ok (.iload_n 2, 1) := by decide +kernel
theorem dX8_partnerOfLine_3 : decode cX8_partnerOfLine 3 = .ok (.aload_n 0, 1) := by decide +kernel
theorem dX8_partnerOfLine_4 : decode cX8_partnerOfLine 4 = .ok (.getfield 104, 3) := by decide +kernel
theorem dX8_partnerOfLine_7 : decode cX8_partnerOfLine 7 = .ok (.if_icmp .ge 21, 3) := by decide +kernel
theorem dX8_partnerOfLine_10 : decode cX8_partnerOfLine 10 = .ok (.aload_n 0, 1) := by decide +kernel
theorem dX8_partnerOfLine_11 : decode cX8_partnerOfLine 11 = .ok (.getfield 70, 3) := by decide +kernel
theorem dX8_partnerOfLine_14 : decode cX8_partnerOfLine 14 = .ok (.iload_n 2, 1) := by decide +kernel
theorem dX8_partnerOfLine_15 : decode cX8_partnerOfLine 15 = .ok (.iaload, 1) := by decide +kernel
theorem dX8_partnerOfLine_16 : decode cX8_partnerOfLine 16 = .ok (.iload_n 1, 1) := by decide +kernel
theorem dX8_partnerOfLine_17 : decode cX8_partnerOfLine 17 = .ok (.if_icmp .ne 5, 3) := by decide +kernel
theorem dX8_partnerOfLine_20 : decode cX8_partnerOfLine 20 = .ok (.iload_n 2, 1) := by decide +kernel
theorem dX8_partnerOfLine_21 : decode cX8_partnerOfLine 21 = .ok (.ireturn, 1) := by decide +kernel
theorem dX8_partnerOfLine_22 : decode cX8_partnerOfLine 22 = .ok (.iinc 2 1, 3) := by decide +kernel
theorem dX8_partnerOfLine_25 : decode cX8_partnerOfLine 25 = .ok (.goto (-23), 3) := by decide +kernel
theorem dX8_partnerOfLine_28 : decode cX8_partnerOfLine 28 = .ok (.iconst (-1), 1) := by decide +kernel
theorem dX8_partnerOfLine_29 : decode cX8_partnerOfLine 29 = .ok (.ireturn, 1) := by decide +kernel
theorem dX8_of_0 : decode cX8_of 0 = .ok (.aload_n 0, 1) := by decide +kernel
theorem dX8_of_1 : decode cX8_of 1 = .ok (.iconst 0, 1) := by decide +kernel
theorem dX8_of_2 : decode cX8_of 2 = .ok (.putfield 94, 3) := by decide +kernel
theorem dX8_of_5 : decode cX8_of 5 = .ok (.aload_n 0, 1) := by decide +kernel
theorem dX8_of_6 : decode cX8_of 6 = .ok (.iload_n 1, 1) := by decide +kernel
theorem dX8_of_7 : decode cX8_of 7 = .ok (.invokevirtual 124, 3) := by decide +kernel
theorem dX8_of_10 : decode cX8_of 10 = .ok (.ifCond .eq 13, 3) := by decide +kernel
theorem dX8_of_13 : decode cX8_of 13 = .ok (.iload_n 2, 1) := by decide +kernel
theorem dX8_of_14 : decode cX8_of 14 = .ok (.iconst 0, 1) := by decide +kernel
theorem dX8_of_15 : decode cX8_of 15 = .ok (.bipush 7, 2) := by decide +kernel
theorem dX8_of_17 : decode cX8_of 17 = .ok (.invokestatic 100, 3) := by decide +kernel
theorem dX8_of_20 : decode cX8_of 20 = .ok (.ifCond .ne 10, 3) := by decide +kernel
theorem dX8_of_23 : decode cX8_of 23 = .ok (.aload_n 0, 1) := by decide +kernel
theorem dX8_of_24 : decode cX8_of 24 = .ok (.iconst 1, 1) := by decide +kernel
theorem dX8_of_25 : decode cX8_of 25 = .ok (.putfield 94, 3) := by decide +kernel
theorem dX8_of_28 : decode cX8_of 28 = .ok (.iconst 0, 1) := by decide +kernel
theorem dX8_of_29 : decode cX8_of 29 = .ok (.ireturn, 1) := by decide +kernel
theorem dX8_of_30 : decode cX8_of 30 = .ok (.aload_n 0, 1) := by decide +kernel
theorem dX8_of_31 : decode cX8_of 31 = .ok (.invokevirtual 195, 3) := by decide +kernel
theorem dX8_of_34 : decode cX8_of 34 = .ok (.iload_n 2, 1) := by decide +kernel
theorem dX8_of_35 : decode cX8_of 35 = .ok (.tableswitch 95 0 6 #[41, 48, 54, 69, 76, 83, 89], 41) := by decide +kernel
theorem dX8_of_76 : decode cX8_of 76 = .ok (.aload_n 0, 1) := by decide +kernel
theorem dX8_of_77 : decode cX8_of 77 = .ok (.getfield 17, 3) := by decide +kernel
theorem dX8_of_80 : decode cX8_of 80 = .ok (.iload_n 1, 1) := by decide +kernel
theorem dX8_of_81 : decode cX8_of 81 = .ok (.iaload, 1) := by decide +kernel
theorem dX8_of_82 : decode cX8_of 82 = .ok (.ireturn, 1) := by decide +kernel
theorem dX8_of_83 : decode cX8_of 83 = .ok (.aload_n 0, 1) := by decide +kernel
theorem dX8_of_84 : decode cX8_of 84 = .ok (.iload_n 1, 1) := by decide +kernel
theorem dX8_of_85 : decode cX8_of 85 = .ok (.invokevirtual 135, 3) := by decide +kernel
theorem dX8_of_88 : decode cX8_of 88 = .ok (.ireturn, 1) := by decide +kernel
theorem dX8_of_89 : decode cX8_of 89 = .ok (.aload_n 0, 1) := by decide +kernel
theorem dX8_of_90 : decode cX8_of 90 = .ok (.getfield 88, 3) := by decide +kernel
theorem dX8_of_93 : decode cX8_of 93 = .ok (.iload_n 1, 1) := by decide +kernel
theorem dX8_of_94 : decode cX8_of 94 = .ok (.baload, 1) := by decide +kernel
theorem dX8_of_95 : decode cX8_of 95 = .ok (.ifCond .eq 7, 3) := by decide +kernel
theorem dX8_of_98 : decode cX8_of 98 = .ok (.iconst 1, 1) := by decide +kernel
theorem dX8_of_99 : decode cX8_of 99 = .ok (.goto 4, 3) := by decide +kernel
theorem dX8_of_102 : decode cX8_of 102 = .ok (.iconst 0, 1) := by decide +kernel
theorem dX8_of_103 : decode cX8_of 103 = .ok (.ireturn, 1) := by decide +kernel
theorem dX8_of_104 : decode cX8_of 104 = .ok (.aload_n 0, 1) := by decide +kernel
theorem dX8_of_105 : decode cX8_of 105 = .ok (.getfield 58, 3) := by decide +kernel
theorem dX8_of_108 : decode cX8_of 108 = .ok (.iload_n 1, 1) := by decide +kernel
theorem dX8_of_109 : decode cX8_of 109 = .ok (.iaload, 1) := by decide +kernel
theorem dX8_of_110 : decode cX8_of 110 = .ok (.ireturn, 1) := by decide +kernel
theorem dX8_of_111 : decode cX8_of 111 = .ok (.aload_n 0, 1) := by decide +kernel
theorem dX8_of_112 : decode cX8_of 112 = .ok (.getfield 33, 3) := by decide +kernel
theorem dX8_of_115 : decode cX8_of 115 = .ok (.iload_n 1, 1) := by decide +kernel
theorem dX8_of_116 : decode cX8_of 116 = .ok (.iaload, 1) := by decide +kernel
theorem dX8_of_117 : decode cX8_of 117 = .ok (.ireturn, 1) := by decide +kernel
theorem dX8_of_118 : decode cX8_of 118 = .ok (.aload_n 0, 1) := by decide +kernel
theorem dX8_of_119 : decode cX8_of 119 = .ok (.iload_n 1, 1) := by decide +kernel
theorem dX8_of_120 : decode cX8_of 120 = .ok (.invokevirtual 201, 3) := by decide +kernel
theorem dX8_of_123 : decode cX8_of 123 = .ok (.ireturn, 1) := by decide +kernel
theorem dX8_of_124 : decode cX8_of 124 = .ok (.aload_n 0, 1) := by decide +kernel
theorem dX8_of_125 : decode cX8_of 125 = .ok (.iload_n 1, 1) := by decide +kernel
theorem dX8_of_126 : decode cX8_of 126 = .ok (.invokevirtual 204, 3) := by decide +kernel
theorem dX8_of_129 : decode cX8_of 129 = .ok (.ireturn, 1) := by decide +kernel
theorem dX8_of_130 : decode cX8_of 130 = .ok (.aload_n 0, 1) := by decide +kernel
theorem dX8_of_131 : decode cX8_of 131 = .ok (.iload_n 1, 1) := by decide +kernel
theorem dX8_of_132 : decode cX8_of 132 = .ok (.invokevirtual 207, 3) := by decide +kernel
theorem dX8_of_135 : decode cX8_of 135 = .ok (.ireturn, 1) := by decide +kernel
theorem dX8_counter_0 : decode cX8_counter 0 = .ok (.aload_n 0, 1) := by decide +kernel
theorem dX8_counter_1 : decode cX8_counter 1 = .ok (.iconst 0, 1) := by decide +kernel
theorem dX8_counter_2 : decode cX8_counter 2 = .ok (.putfield 94, 3) := by decide +kernel
theorem dX8_counter_5 : decode cX8_counter 5 = .ok (.aload_n 0, 1) := by decide +kernel
theorem dX8_counter_6 : decode cX8_counter 6 = .ok (.iload_n 1, 1) := by decide +kernel
theorem dX8_counter_7 : decode cX8_counter 7 = .ok (.invokevirtual 124, 3) := by decide +kernel
theorem dX8_counter_10 : decode cX8_counter 10 = .ok (.ifCond .eq 12, 3) := by decide +kernel
theorem dX8_counter_13 : decode cX8_counter 13 = .ok (.iload_n 2, 1) := by decide +kernel
theorem dX8_counter_14 : decode cX8_counter 14 = .ok (.iconst 1, 1) := by decide +kernel
theorem dX8_counter_15 : decode cX8_counter 15 = .ok (.iconst 3, 1) := by decide +kernel
theorem dX8_counter_16 : decode cX8_counter 16 = .ok (.invokestatic 100, 3) := by decide +kernel
theorem dX8_counter_19 : decode cX8_counter 19 = .ok (.ifCond .ne 5, 3) := by decide +kernel
theorem dX8_counter_22 : decode cX8_counter 22 = .ok (.iconst (-1), 1) := by decide +kernel
theorem dX8_counter_23 : decode cX8_counter 23 = .ok (.ireturn, 1) := by decide +kernel
theorem dX8_counter_24 : decode cX8_counter 24 = .ok (.aload_n 0, 1) := by decide +kernel
theorem dX8_counter_25 : decode cX8_counter 25 = .ok (.invokevirtual 195, 3) := by decide +kernel
theorem dX8_counter_28 : decode cX8_counter 28 = .ok (.aload_n 0, 1) := by decide +kernel
theorem dX8_counter_29 : decode cX8_counter 29 = .ok (.getfield 61, 3) := by decide +kernel
theorem dX8_counter_32 : decode cX8_counter 32 = .ok (.iconst 3, 1) := by decide +kernel
theorem dX8_counter_33 : decode cX8_counter 33 = .ok (.iload_n 1, 1) := by decide +kernel
theorem dX8_counter_34 : decode cX8_counter 34 = .ok (.imul, 1) := by decide +kernel
theorem dX8_counter_35 : decode cX8_counter 35 = .ok (.iload_n 2, 1) := by decide +kernel
theorem dX8_counter_36 : decode cX8_counter 36 = .ok (.iadd, 1) := by decide +kernel
theorem dX8_counter_37 : decode cX8_counter 37 = .ok (.iconst 1, 1) := by decide +kernel
theorem dX8_counter_38 : decode cX8_counter 38 = .ok (.isub, 1) := by decide +kernel
theorem dX8_counter_39 : decode cX8_counter 39 = .ok (.iaload, 1) := by decide +kernel
theorem dX8_counter_40 : decode cX8_counter 40 = .ok (.ireturn, 1) := by decide +kernel
theorem dX8_partner_0 : decode cX8_partner 0 = .ok (.aload_n 0, 1) := by decide +kernel
theorem dX8_partner_1 : decode cX8_partner 1 = .ok (.iconst 0, 1) := by decide +kernel
theorem dX8_partner_2 : decode cX8_partner 2 = .ok (.putfield 94, 3) := by decide +kernel
theorem dX8_partner_5 : decode cX8_partner 5 = .ok (.iload_n 1, 1) := by decide +kernel
theorem dX8_partner_6 : decode cX8_partner 6 = .ok (.iconst 0, 1) := by decide +kernel
theorem dX8_partner_7 : decode cX8_partner 7 = .ok (.aload_n 0, 1) := by decide +kernel
theorem dX8_partner_8 : decode cX8_partner 8 = .ok (.getfield 104, 3) := by decide +kernel
theorem dX8_partner_11 : decode cX8_partner 11 = .ok (.iconst 1, 1) := by decide +kernel
theorem dX8_partner_12 : decode cX8_partner 12 = .ok (.isub, 1) := by decide +kernel
theorem dX8_partner_13 : decode cX8_partner 13 = .ok (.invokestatic 100, 3) := by decide +kernel
theorem dX8_partner_16 : decode cX8_partner 16 = .ok (.ifCond .ne 5, 3) := by decide +kernel
theorem dX8_partner_19 : decode cX8_partner 19 = .ok (.iconst (-1), 1) := by decide +kernel
theorem dX8_partner_20 : decode cX8_partner 20 = .ok (.ireturn, 1) := by decide +kernel
theorem dX8_partner_21 : decode cX8_partner 21 = .ok (.aload_n 0, 1) := by decide +kernel
theorem dX8_partner_22 : decode cX8_partner 22 = .ok (.invokevirtual 195, 3) := by decide +kernel
theorem dX8_partner_25 : decode cX8_partner 25 = .ok (.aload_n 0, 1) := by decide +kernel
theorem dX8_partner_26 : decode cX8_partner 26 = .ok (.getfield 70, 3) := by decide +kernel
theorem dX8_partner_29 : decode cX8_partner 29 = .ok (.iload_n 1, 1) := by decide +kernel
theorem dX8_partner_30 : decode cX8_partner 30 = .ok (.iaload, 1) := by decide +kernel
theorem dX8_partner_31 : decode cX8_partner 31 = .ok (.ireturn, 1) := by decide +kernel
theorem dX8_shift_0 : decode cX8_shift 0 = .ok (.aload_n 0, 1) := by decide +kernel
theorem dX8_shift_1 : decode cX8_shift 1 = .ok (.iconst 0, 1) := by decide +kernel
theorem dX8_shift_2 : decode cX8_shift 2 = .ok (.putfield 94, 3) := by decide +kernel
theorem dX8_shift_5 : decode cX8_shift 5 = .ok (.iload_n 1, 1) := by decide +kernel
theorem dX8_shift_6 : decode cX8_shift 6 = .ok (.iconst 0, 1) := by decide +kernel
theorem dX8_shift_7 : decode cX8_shift 7 = .ok (.aload_n 0, 1) := by decide +kernel
theorem dX8_shift_8 : decode cX8_shift 8 = .ok (.getfield 9, 3) := by decide +kernel
theorem dX8_shift_11 : decode cX8_shift 11 = .ok (.iconst 1, 1) := by decide +kernel
theorem dX8_shift_12 : decode cX8_shift 12 = .ok (.isub, 1) := by decide +kernel
theorem dX8_shift_13 : decode cX8_shift 13 = .ok (.invokestatic 100, 3) := by decide +kernel
theorem dX8_shift_16 : decode cX8_shift 16 = .ok (.ifCond .ne 10, 3) := by decide +kernel
theorem dX8_shift_19 : decode cX8_shift 19 = .ok (.aload_n 0, 1) := by decide +kernel
theorem dX8_shift_20 : decode cX8_shift 20 = .ok (.iconst 1, 1) := by decide +kernel
theorem dX8_shift_21 : decode cX8_shift 21 = .ok (.putfield 94, 3) := by decide +kernel
theorem dX8_shift_24 : decode cX8_shift 24 = .ok (.iconst 0, 1) := by decide +kernel
theorem dX8_shift_25 : decode cX8_shift 25 = .ok (.ireturn, 1) := by decide +kernel
theorem dX8_shift_26 : decode cX8_shift 26 = .ok (.aload_n 0, 1) := by decide +kernel
theorem dX8_shift_27 : decode cX8_shift 27 = .ok (.invokevirtual 195, 3) := by decide +kernel
theorem dX8_shift_30 : decode cX8_shift 30 = .ok (.aload_n 0, 1) := by decide +kernel
theorem dX8_shift_31 : decode cX8_shift 31 = .ok (.getfield 85, 3) := by decide +kernel
theorem dX8_shift_34 : decode cX8_shift 34 = .ok (.iload_n 1, 1) := by decide +kernel
theorem dX8_shift_35 : decode cX8_shift 35 = .ok (.iaload, 1) := by decide +kernel
theorem dX8_shift_36 : decode cX8_shift 36 = .ok (.ireturn, 1) := by decide +kernel
theorem dX8_span_0 : decode cX8_span 0 = .ok (.aload_n 0, 1) := by decide +kernel
theorem dX8_span_1 : decode cX8_span 1 = .ok (.iconst 0, 1) := by decide +kernel
theorem dX8_span_2 : decode cX8_span 2 = .ok (.putfield 94, 3) := by decide +kernel
theorem dX8_span_5 : decode cX8_span 5 = .ok (.iload_n 1, 1) := by decide +kernel
theorem dX8_span_6 : decode cX8_span 6 = .ok (.iconst 0, 1) := by decide +kernel
theorem dX8_span_7 : decode cX8_span 7 = .ok (.aload_n 0, 1) := by decide +kernel
theorem dX8_span_8 : decode cX8_span 8 = .ok (.getfield 9, 3) := by decide +kernel
theorem dX8_span_11 : decode cX8_span 11 = .ok (.iconst 1, 1) := by decide +kernel
theorem dX8_span_12 : decode cX8_span 12 = .ok (.isub, 1) := by decide +kernel
theorem dX8_span_13 : decode cX8_span 13 = .ok (.invokestatic 100, 3) := by decide +kernel
theorem dX8_span_16 : decode cX8_span 16 = .ok (.ifCond .ne 5, 3) := by decide +kernel
theorem dX8_span_19 : decode cX8_span 19 = .ok (.iconst (-1), 1) := by decide +kernel
theorem dX8_span_20 : decode cX8_span 20 = .ok (.ireturn, 1) := by decide +kernel
theorem dX8_span_21 : decode cX8_span 21 = .ok (.aload_n 0, 1) := by decide +kernel
theorem dX8_span_22 : decode cX8_span 22 = .ok (.invokevirtual 195, 3) := by decide +kernel
theorem dX8_span_25 : decode cX8_span 25 = .ok (.aload_n 0, 1) := by decide +kernel
theorem dX8_span_26 : decode cX8_span 26 = .ok (.getfield 82, 3) := by decide +kernel
theorem dX8_span_29 : decode cX8_span 29 = .ok (.iload_n 1, 1) := by decide +kernel
theorem dX8_span_30 : decode cX8_span 30 = .ok (.iaload, 1) := by decide +kernel
theorem dX8_span_31 : decode cX8_span 31 = .ok (.ireturn, 1) := by decide +kernel
theorem dX8_wrong_0 : decode cX8_wrong 0 = .ok (.aload_n 0, 1) := by decide +kernel
theorem dX8_wrong_1 : decode cX8_wrong 1 = .ok (.iconst 0, 1) := by decide +kernel
theorem dX8_wrong_2 : decode cX8_wrong 2 = .ok (.putfield 94, 3) := by decide +kernel
theorem dX8_wrong_5 : decode cX8_wrong 5 = .ok (.iload_n 1, 1) := by decide +kernel
theorem dX8_wrong_6 : decode cX8_wrong 6 = .ok (.iconst 0, 1) := by decide +kernel
theorem dX8_wrong_7 : decode cX8_wrong 7 = .ok (.aload_n 0, 1) := by decide +kernel
theorem dX8_wrong_8 : decode cX8_wrong 8 = .ok (.getfield 9, 3) := by decide +kernel
theorem dX8_wrong_11 : decode cX8_wrong 11 = .ok (.iconst 1, 1) := by decide +kernel
theorem dX8_wrong_12 : decode cX8_wrong 12 = .ok (.isub, 1) := by decide +kernel
theorem dX8_wrong_13 : decode cX8_wrong 13 = .ok (.invokestatic 100, 3) := by decide +kernel
theorem dX8_wrong_16 : decode cX8_wrong 16 = .ok (.ifCond .ne 5, 3) := by decide +kernel
theorem dX8_wrong_19 : decode cX8_wrong 19 = .ok (.iconst (-1), 1) := by decide +kernel
theorem dX8_wrong_20 : decode cX8_wrong 20 = .ok (.ireturn, 1) := by decide +kernel
theorem dX8_wrong_21 : decode cX8_wrong 21 = .ok (.aload_n 0, 1) := by decide +kernel
theorem dX8_wrong_22 : decode cX8_wrong 22 = .ok (.invokevirtual 195, 3) := by decide +kernel
theorem dX8_wrong_25 : decode cX8_wrong 25 = .ok (.aload_n 0, 1) := by decide +kernel
theorem dX8_wrong_26 : decode cX8_wrong 26 = .ok (.iload_n 1, 1) := by decide +kernel
theorem dX8_wrong_27 : decode cX8_wrong 27 = .ok (.invokevirtual 198, 3) := by decide +kernel
theorem dX8_wrong_30 : decode cX8_wrong 30 = .ok (.ifCond .eq 7, 3) := by decide +kernel
theorem dX8_wrong_33 : decode cX8_wrong 33 = .ok (.iconst 1, 1) := by decide +kernel
theorem dX8_wrong_34 : decode cX8_wrong 34 = .ok (.goto 4, 3) := by decide +kernel
theorem dX8_wrong_37 : decode cX8_wrong 37 = .ok (.iconst 0, 1) := by decide +kernel
theorem dX8_wrong_38 : decode cX8_wrong 38 = .ok (.ireturn, 1) := by decide +kernel
theorem dJ9_abs_0f7a4_0 : decode cJ9_abs_0f7a4 0 = .ok (.iload_n 0, 1) := by decide +kernel
theorem dJ9_abs_0f7a4_1 : decode cJ9_abs_0f7a4 1 = .ok (.ifCond .ge 8, 3) := by decide +kernel
theorem dJ9_abs_0f7a4_4 : decode cJ9_abs_0f7a4 4 = .ok (.iload_n 0, 1) := by decide +kernel
theorem dJ9_abs_0f7a4_5 : decode cJ9_abs_0f7a4 5 = .ok (.ineg, 1) := by decide +kernel
theorem dJ9_abs_0f7a4_6 : decode cJ9_abs_0f7a4 6 = .ok (.goto 4, 3) := by decide +kernel
theorem dJ9_abs_0f7a4_9 : decode cJ9_abs_0f7a4 9 = .ok (.iload_n 0, 1) := by decide +kernel
theorem dJ9_abs_0f7a4_10 : decode cJ9_abs_0f7a4 10 = .ok (.ireturn, 1) := by decide +kernel
theorem dJ9_max_7cf53_0 : decode cJ9_max_7cf53 0 = .ok (.iload_n 0, 1) := by decide +kernel
theorem dJ9_max_7cf53_1 : decode cJ9_max_7cf53 1 = .ok (.iload_n 1, 1) := by decide +kernel
theorem dJ9_max_7cf53_2 : decode cJ9_max_7cf53 2 = .ok (.if_icmp .lt 7, 3) := by decide +kernel
theorem dJ9_max_7cf53_5 : decode cJ9_max_7cf53 5 = .ok (.iload_n 0, 1) := by decide +kernel
theorem dJ9_max_7cf53_6 : decode cJ9_max_7cf53 6 = .ok (.goto 4, 3) := by decide +kernel
theorem dJ9_max_7cf53_9 : decode cJ9_max_7cf53 9 = .ok (.iload_n 1, 1) := by decide +kernel
theorem dJ9_max_7cf53_10 : decode cJ9_max_7cf53 10 = .ok (.ireturn, 1) := by decide +kernel
theorem dJ9_min_7cf53_0 : decode cJ9_min_7cf53 0 = .ok (.iload_n 0, 1) := by decide +kernel
theorem dJ9_min_7cf53_1 : decode cJ9_min_7cf53 1 = .ok (.iload_n 1, 1) := by decide +kernel
theorem dJ9_min_7cf53_2 : decode cJ9_min_7cf53 2 = .ok (.if_icmp .gt 7, 3) := by decide +kernel
theorem dJ9_min_7cf53_5 : decode cJ9_min_7cf53 5 = .ok (.iload_n 0, 1) := by decide +kernel
theorem dJ9_min_7cf53_6 : decode cJ9_min_7cf53 6 = .ok (.goto 4, 3) := by decide +kernel
theorem dJ9_min_7cf53_9 : decode cJ9_min_7cf53 9 = .ok (.iload_n 1, 1) := by decide +kernel
theorem dJ9_min_7cf53_10 : decode cJ9_min_7cf53 10 = .ok (.ireturn, 1) := by decide +kernel
theorem dJ9_min_f86c9_0 : decode cJ9_min_f86c9 0 = .ok (.lload_n 0, 1) := by decide +kernel
theorem dJ9_min_f86c9_1 : decode cJ9_min_f86c9 1 = .ok (.lload_n 2, 1) := by decide +kernel
theorem dJ9_min_f86c9_2 : decode cJ9_min_f86c9 2 = .ok (.lcmp, 1) := by decide +kernel
theorem dJ9_min_f86c9_3 : decode cJ9_min_f86c9 3 = .ok (.ifCond .gt 7, 3) := by decide +kernel
theorem dJ9_min_f86c9_6 : decode cJ9_min_f86c9 6 = .ok (.lload_n 0, 1) := by decide +kernel
theorem dJ9_min_f86c9_7 : decode cJ9_min_f86c9 7 = .ok (.goto 4, 3) := by decide +kernel
theorem dJ9_min_f86c9_10 : decode cJ9_min_f86c9 10 = .ok (.lload_n 2, 1) := by decide +kernel
theorem dJ9_min_f86c9_11 : decode cJ9_min_f86c9 11 = .ok (.lreturn, 1) := by decide +kernel
theorem dJ7_fill_d0a16_0 : decode cJ7_fill_d0a16 0 = .ok (.iconst 0, 1) := by decide +kernel
theorem dJ7_fill_d0a16_1 : decode cJ7_fill_d0a16 1 = .ok (.istore_n 3, 1) := by decide +kernel
theorem dJ7_fill_d0a16_2 : decode cJ7_fill_d0a16 2 = .ok (.aload_n 0, 1) := by decide +kernel
theorem dJ7_fill_d0a16_3 : decode cJ7_fill_d0a16 3 = .ok (.arraylength, 1) := by decide +kernel
theorem dJ7_fill_d0a16_4 : decode cJ7_fill_d0a16 4 = .ok (.istore 4, 2) := by decide +kernel
theorem dJ7_fill_d0a16_6 : decode cJ7_fill_d0a16 6 = .ok (.iload_n 3, 1) := by decide +kernel
theorem dJ7_fill_d0a16_7 : decode cJ7_fill_d0a16 7 = .ok (.iload 4, 2) := by decide +kernel
theorem dJ7_fill_d0a16_9 : decode cJ7_fill_d0a16 9 = .ok (.if_icmp .ge 13, 3) := by decide +kernel
theorem dJ7_fill_d0a16_12 : decode cJ7_fill_d0a16 12 = .ok (.aload_n 0, 1) := by decide +kernel
theorem dJ7_fill_d0a16_13 : decode cJ7_fill_d0a16 13 = .ok (.iload_n 3, 1) := by decide +kernel
theorem dJ7_fill_d0a16_14 : decode cJ7_fill_d0a16 14 = .ok (.lload_n 1, 1) := by decide +kernel
theorem dJ7_fill_d0a16_15 : decode cJ7_fill_d0a16 15 = .ok (.lastore, 1) := by decide +kernel
theorem dJ7_fill_d0a16_16 : decode cJ7_fill_d0a16 16 = .ok (.iinc 3 1, 3) := by decide +kernel
theorem dJ7_fill_d0a16_19 : decode cJ7_fill_d0a16 19 = .ok (.goto (-13), 3) := by decide +kernel
theorem dJ7_fill_d0a16_22 : decode cJ7_fill_d0a16 22 = .ok (.return_, 1) := by decide +kernel
theorem dJ7_fill_53178_0 : decode cJ7_fill_53178 0 = .ok (.iconst 0, 1) := by decide +kernel
theorem dJ7_fill_53178_1 : decode cJ7_fill_53178 1 = .ok (.istore_n 2, 1) := by decide +kernel
theorem dJ7_fill_53178_2 : decode cJ7_fill_53178 2 = .ok (.aload_n 0, 1) := by decide +kernel
theorem dJ7_fill_53178_3 : decode cJ7_fill_53178 3 = .ok (.arraylength, 1) := by decide +kernel
theorem dJ7_fill_53178_4 : decode cJ7_fill_53178 4 = .ok (.istore_n 3, 1) := by decide +kernel
theorem dJ7_fill_53178_5 : decode cJ7_fill_53178 5 = .ok (.iload_n 2, 1) := by decide +kernel
theorem dJ7_fill_53178_6 : decode cJ7_fill_53178 6 = .ok (.iload_n 3, 1) := by decide +kernel
theorem dJ7_fill_53178_7 : decode cJ7_fill_53178 7 = .ok (.if_icmp .ge 13, 3) := by decide +kernel
theorem dJ7_fill_53178_10 : decode cJ7_fill_53178 10 = .ok (.aload_n 0, 1) := by decide +kernel
theorem dJ7_fill_53178_11 : decode cJ7_fill_53178 11 = .ok (.iload_n 2, 1) := by decide +kernel
theorem dJ7_fill_53178_12 : decode cJ7_fill_53178 12 = .ok (.iload_n 1, 1) := by decide +kernel
theorem dJ7_fill_53178_13 : decode cJ7_fill_53178 13 = .ok (.iastore, 1) := by decide +kernel
theorem dJ7_fill_53178_14 : decode cJ7_fill_53178 14 = .ok (.iinc 2 1, 3) := by decide +kernel
theorem dJ7_fill_53178_17 : decode cJ7_fill_53178 17 = .ok (.goto (-12), 3) := by decide +kernel
theorem dJ7_fill_53178_20 : decode cJ7_fill_53178 20 = .ok (.return_, 1) := by decide +kernel
