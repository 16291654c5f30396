theorem dX9_init_0 : decode cX9_init 0 = .ok (.aload_n 0, 1) := by decide +kernel
theorem dX9_init_1 : decode cX9_init 1 = .ok (.invokespecial 1, 3) := by decide +kernel
theorem dX9_init_4 : decode cX9_init 4 = .ok (.aload_n 0, 1) := by decide +kernel
theorem dX9_init_5 : decode cX9_init 5 = .ok (.sipush 8296, 3) := by decide +kernel
theorem dX9_init_8 : decode cX9_init 8 = .ok (.newarray .int, 2) := by decide +kernel
theorem dX9_init_10 : decode cX9_init 10 = .ok (.putfield 7, 3) := by decide +kernel
theorem dX9_init_13 : decode cX9_init 13 = .ok (.aload_n 0, 1) := by decide +kernel
theorem dX9_init_14 : decode cX9_init 14 = .ok (.sipush 8296, 3) := by decide +kernel
theorem dX9_init_17 : decode cX9_init 17 = .ok (.newarray .int, 2) := by decide +kernel
theorem dX9_init_19 : decode cX9_init 19 = .ok (.putfield 13, 3) := by decide +kernel
theorem dX9_init_22 : decode cX9_init 22 = .ok (.aload_n 0, 1) := by decide +kernel
theorem dX9_init_23 : decode cX9_init 23 = .ok (.sipush 24888, 3) := by decide +kernel
theorem dX9_init_26 : decode cX9_init 26 = .ok (.newarray .int, 2) := by decide +kernel
theorem dX9_init_28 : decode cX9_init 28 = .ok (.putfield 16, 3) := by decide +kernel
theorem dX9_init_31 : decode cX9_init 31 = .ok (.aload_n 0, 1) := by decide +kernel
theorem dX9_init_32 : decode cX9_init 32 = .ok (.bipush 64, 2) := by decide +kernel
theorem dX9_init_34 : decode cX9_init 34 = .ok (.newarray .int, 2) := by decide +kernel
theorem dX9_init_36 : decode cX9_init 36 = .ok (.putfield 19, 3) := by decide +kernel
theorem dX9_init_39 : decode cX9_init 39 = .ok (.aload_n 0, 1) := by decide +kernel
theorem dX9_init_40 : decode cX9_init 40 = .ok (.sipush 600, 3) := by decide +kernel
theorem dX9_init_43 : decode cX9_init 43 = .ok (.newarray .byte, 2) := by decide +kernel
theorem dX9_init_45 : decode cX9_init 45 = .ok (.putfield 22, 3) := by decide +kernel
theorem dX9_init_48 : decode cX9_init 48 = .ok (.aload_n 0, 1) := by decide +kernel
theorem dX9_init_49 : decode cX9_init 49 = .ok (.iconst (-1), 1) := by decide +kernel
theorem dX9_init_50 : decode cX9_init 50 = .ok (.putfield 26, 3) := by decide +kernel
theorem dX9_init_53 : decode cX9_init 53 = .ok (.aload_n 0, 1) := by decide +kernel
theorem dX9_init_54 : decode cX9_init 54 = .ok (.iconst (-1), 1) := by decide +kernel
theorem dX9_init_55 : decode cX9_init 55 = .ok (.putfield 30, 3) := by decide +kernel
theorem dX9_init_58 : decode cX9_init 58 = .ok (.aload_n 0, 1) := by decide +kernel
theorem dX9_init_59 : decode cX9_init 59 = .ok (.iconst 2, 1) := by decide +kernel
theorem dX9_init_60 : decode cX9_init 60 = .ok (.invokevirtual 33, 3) := by decide +kernel
theorem dX9_init_63 : decode cX9_init 63 = .ok (.return_, 1) := by decide +kernel
theorem dX9_status_0 : decode cX9_status 0 = .ok (.aload_n 0, 1) := by decide +kernel
theorem dX9_status_1 : decode cX9_status 1 = .ok (.iconst 0, 1) := by decide +kernel
theorem dX9_status_2 : decode cX9_status 2 = .ok (.putfield 37, 3) := by decide +kernel
theorem dX9_status_5 : decode cX9_status 5 = .ok (.aload_n 0, 1) := by decide +kernel
theorem dX9_status_6 : decode cX9_status 6 = .ok (.getfield 40, 3) := by decide +kernel
theorem dX9_status_9 : decode cX9_status 9 = .ok (.ireturn, 1) := by decide +kernel
theorem dX9_refuse_0 : decode cX9_refuse 0 = .ok (.aload_n 0, 1) := by decide +kernel
theorem dX9_refuse_1 : decode cX9_refuse 1 = .ok (.iload_n 1, 1) := by decide +kernel
theorem dX9_refuse_2 : decode cX9_refuse 2 = .ok (.putfield 40, 3) := by decide +kernel
theorem dX9_refuse_5 : decode cX9_refuse 5 = .ok (.iconst (-1), 1) := by decide +kernel
theorem dX9_refuse_6 : decode cX9_refuse 6 = .ok (.ireturn, 1) := by decide +kernel
theorem dX9_isIn_0 : decode cX9_isIn 0 = .ok (.iload_n 0, 1) := by decide +kernel
theorem dX9_isIn_1 : decode cX9_isIn 1 = .ok (.iload_n 1, 1) := by decide +kernel
theorem dX9_isIn_2 : decode cX9_isIn 2 = .ok (.if_icmp .lt 12, 3) := by decide +kernel
theorem dX9_isIn_5 : decode cX9_isIn 5 = .ok (.iload_n 0, 1) := by decide +kernel
theorem dX9_isIn_6 : decode cX9_isIn 6 = .ok (.iload_n 2, 1) := by decide +kernel
theorem dX9_isIn_7 : decode cX9_isIn 7 = .ok (.if_icmp .gt 7, 3) := by decide +kernel
theorem dX9_isIn_10 : decode cX9_isIn 10 = .ok (.iconst 1, 1) := by decide +kernel
theorem dX9_isIn_11 : decode cX9_isIn 11 = .ok (.goto 4, 3) := by decide +kernel
theorem dX9_isIn_14 : decode cX9_isIn 14 = .ok (.iconst 0, 1) := by decide +kernel
theorem dX9_isIn_15 : decode cX9_isIn 15 = .ok (.ireturn, 1) := by decide +kernel
theorem dX9_clears_0 : decode cX9_clears 0 = .ok (.iconst 0, 1) := by decide +kernel
theorem dX9_clears_1 : decode cX9_clears 1 = .ok (.istore_n 2, 1) := by decide +kernel
theorem dX9_clears_2 : decode cX9_clears 2 = .ok (.iload_n 2, 1) := by decide +kernel
theorem dX9_clears_3 : decode cX9_clears 3 = .ok (.sipush 8296, 3) := by decide +kernel
theorem dX9_clears_6 : decode cX9_clears 6 = .ok (.if_icmp .ge 16, 3) := by decide +kernel
theorem dX9_clears_9 : decode cX9_clears 9 = .ok (.aload_n 0, 1) := by decide +kernel
theorem dX9_clears_10 : decode cX9_clears 10 = .ok (.getfield 7, 3) := by decide +kernel
theorem dX9_clears_13 : decode cX9_clears 13 = .ok (.iload_n 2, 1) := by decide +kernel
theorem dX9_clears_14 : decode cX9_clears 14 = .ok (.iconst 0, 1) := by decide +kernel
theorem dX9_clears_15 : decode cX9_clears 15 = .ok (.iastore, 1) := by decide +kernel
theorem dX9_clears_16 : decode cX9_clears 16 = .ok (.iinc 2 1, 3) := by decide +kernel
theorem dX9_clears_19 : decode cX9_clears 19 = .ok (.goto (-17), 3) := by decide +kernel
theorem dX9_clears_22 : decode cX9_clears 22 = .ok (.aload_n 0, 1) := by decide +kernel
theorem dX9_clears_23 : decode cX9_clears 23 = .ok (.getfield 7, 3) := by decide +kernel
theorem dX9_clears_26 : decode cX9_clears 26 = .ok (.iconst 0, 1) := by decide +kernel
theorem dX9_clears_27 : decode cX9_clears 27 = .ok (.iload_n 1, 1) := by decide +kernel
theorem dX9_clears_28 : decode cX9_clears 28 = .ok (.iastore, 1) := by decide +kernel
theorem dX9_clears_29 : decode cX9_clears 29 = .ok (.iconst 0, 1) := by decide +kernel
theorem dX9_clears_30 : decode cX9_clears 30 = .ok (.istore_n 2, 1) := by decide +kernel
theorem dX9_clears_31 : decode cX9_clears 31 = .ok (.iload_n 2, 1) := by decide +kernel
theorem dX9_clears_32 : decode cX9_clears 32 = .ok (.bipush 64, 2) := by decide +kernel
theorem dX9_clears_34 : decode cX9_clears 34 = .ok (.if_icmp .ge 20, 3) := by decide +kernel
theorem dX9_clears_37 : decode cX9_clears 37 = .ok (.aload_n 0, 1) := by decide +kernel
theorem dX9_clears_38 : decode cX9_clears 38 = .ok (.getfield 7, 3) := by decide +kernel
theorem dX9_clears_41 : decode cX9_clears 41 = .ok (.sipush 184, 3) := by decide +kernel
theorem dX9_clears_44 : decode cX9_clears 44 = .ok (.iload_n 2, 1) := by decide +kernel
theorem dX9_clears_45 : decode cX9_clears 45 = .ok (.iadd, 1) := by decide +kernel
theorem dX9_clears_46 : decode cX9_clears 46 = .ok (.iconst 1, 1) := by decide +kernel
theorem dX9_clears_47 : decode cX9_clears 47 = .ok (.iastore, 1) := by decide +kernel
theorem dX9_clears_48 : decode cX9_clears 48 = .ok (.iinc 2 1, 3) := by decide +kernel
theorem dX9_clears_51 : decode cX9_clears 51 = .ok (.goto (-20), 3) := by decide +kernel
theorem dX9_clears_54 : decode cX9_clears 54 = .ok (.iconst 0, 1) := by decide +kernel
theorem dX9_clears_55 : decode cX9_clears 55 = .ok (.istore_n 2, 1) := by decide +kernel
theorem dX9_clears_56 : decode cX9_clears 56 = .ok (.iload_n 2, 1) := by decide +kernel
theorem dX9_clears_57 : decode cX9_clears 57 = .ok (.iconst 4, 1) := by decide +kernel
theorem dX9_clears_58 : decode cX9_clears 58 = .ok (.if_icmp .ge 19, 3) := by decide +kernel
theorem dX9_clears_61 : decode cX9_clears 61 = .ok (.aload_n 0, 1) := by decide +kernel
theorem dX9_clears_62 : decode cX9_clears 62 = .ok (.getfield 7, 3) := by decide +kernel
theorem dX9_clears_65 : decode cX9_clears 65 = .ok (.bipush 8, 2) := by decide +kernel
theorem dX9_clears_67 : decode cX9_clears 67 = .ok (.iload_n 2, 1) := by decide +kernel
theorem dX9_clears_68 : decode cX9_clears 68 = .ok (.iadd, 1) := by decide +kernel
theorem dX9_clears_69 : decode cX9_clears 69 = .ok (.iconst (-1), 1) := by decide +kernel
theorem dX9_clears_70 : decode cX9_clears 70 = .ok (.iastore, 1) := by decide +kernel
theorem dX9_clears_71 : decode cX9_clears 71 = .ok (.iinc 2 1, 3) := by decide +kernel
theorem dX9_clears_74 : decode cX9_clears 74 = .ok (.goto (-18), 3) := by decide +kernel
theorem dX9_clears_77 : decode cX9_clears 77 = .ok (.aload_n 0, 1) := by decide +kernel
theorem dX9_clears_78 : decode cX9_clears 78 = .ok (.getfield 7, 3) := by decide +kernel
theorem dX9_clears_81 : decode cX9_clears 81 = .ok (.iconst 5, 1) := by decide +kernel
theorem dX9_clears_82 : decode cX9_clears 82 = .ok (.iconst (-1), 1) := by decide +kernel
theorem dX9_clears_83 : decode cX9_clears 83 = .ok (.iastore, 1) := by decide +kernel
theorem dX9_clears_84 : decode cX9_clears 84 = .ok (.aload_n 0, 1) := by decide +kernel
theorem dX9_clears_85 : decode cX9_clears 85 = .ok (.getfield 7, 3) := by decide +kernel
theorem dX9_clears_88 : decode cX9_clears 88 = .ok (.bipush 6, 2) := by decide +kernel
theorem dX9_clears_90 : decode cX9_clears 90 = .ok (.iconst (-1), 1) := by decide +kernel
theorem dX9_clears_91 : decode cX9_clears 91 = .ok (.iastore, 1) := by decide +kernel
theorem dX9_clears_92 : decode cX9_clears 92 = .ok (.aload_n 0, 1) := by decide +kernel
theorem dX9_clears_93 : decode cX9_clears 93 = .ok (.getfield 7, 3) := by decide +kernel
theorem dX9_clears_96 : decode cX9_clears 96 = .ok (.bipush 34, 2) := by decide +kernel
theorem dX9_clears_98 : decode cX9_clears 98 = .ok (.iconst (-1), 1) := by decide +kernel
theorem dX9_clears_99 : decode cX9_clears 99 = .ok (.iastore, 1) := by decide +kernel
theorem dX9_clears_100 : decode cX9_clears 100 = .ok (.aload_n 0, 1) := by decide +kernel
theorem dX9_clears_101 : decode cX9_clears 101 = .ok (.getfield 7, 3) := by decide +kernel
theorem dX9_clears_104 : decode cX9_clears 104 = .ok (.bipush 37, 2) := by decide +kernel
theorem dX9_clears_106 : decode cX9_clears 106 = .ok (.iconst (-1), 1) := by decide +kernel
theorem dX9_clears_107 : decode cX9_clears 107 = .ok (.iastore, 1) := by decide +kernel
theorem dX9_clears_108 : decode cX9_clears 108 = .ok (.iconst 0, 1) := by decide +kernel
theorem dX9_clears_109 : decode cX9_clears 109 = .ok (.istore_n 2, 1) := by decide +kernel
theorem dX9_clears_110 : decode cX9_clears 110 = .ok (.iload_n 2, 1) := by decide +kernel
theorem dX9_clears_111 : decode cX9_clears 111 = .ok (.bipush 8, 2) := by decide +kernel
theorem dX9_clears_113 : decode cX9_clears 113 = .ok (.if_icmp .ge 30, 3) := by decide +kernel
theorem dX9_clears_116 : decode cX9_clears 116 = .ok (.aload_n 0, 1) := by decide +kernel
theorem dX9_clears_117 : decode cX9_clears 117 = .ok (.getfield 7, 3) := by decide +kernel
theorem dX9_clears_120 : decode cX9_clears 120 = .ok (.bipush 72, 2) := by decide +kernel
theorem dX9_clears_122 : decode cX9_clears 122 = .ok (.iload_n 2, 1) := by decide +kernel
theorem dX9_clears_123 : decode cX9_clears 123 = .ok (.iadd, 1) := by decide +kernel
theorem dX9_clears_124 : decode cX9_clears 124 = .ok (.iconst (-1), 1) := by decide +kernel
theorem dX9_clears_125 : decode cX9_clears 125 = .ok (.iastore, 1) := by decide +kernel
theorem dX9_clears_126 : decode cX9_clears 126 = .ok (.aload_n 0, 1) := by decide +kernel
theorem dX9_clears_127 : decode cX9_clears 127 = .ok (.getfield 7, 3) := by decide +kernel
theorem dX9_clears_130 : decode cX9_clears 130 = .ok (.sipush 168, 3) := by decide +kernel
theorem dX9_clears_133 : decode cX9_clears 133 = .ok (.iload_n 2, 1) := by decide +kernel
theorem dX9_clears_134 : decode cX9_clears 134 = .ok (.iadd, 1) := by decide +kernel
theorem dX9_clears_135 : decode cX9_clears 135 = .ok (.iconst (-1), 1) := by decide +kernel
theorem dX9_clears_136 : decode cX9_clears 136 = .ok (.iastore, 1) := by decide +kernel
theorem dX9_clears_137 : decode cX9_clears 137 = .ok (.iinc 2 1, 3) := by decide +kernel
theorem dX9_clears_140 : decode cX9_clears 140 = .ok (.goto (-30), 3) := by decide +kernel
theorem dX9_clears_143 : decode cX9_clears 143 = .ok (.return_, 1) := by decide +kernel
theorem dX9_of_0 : decode cX9_of 0 = .ok (.aload_n 0, 1) := by decide +kernel
theorem dX9_of_1 : decode cX9_of 1 = .ok (.getfield 7, 3) := by decide +kernel
theorem dX9_of_4 : decode cX9_of 4 = .ok (.bipush 40, 2) := by decide +kernel
theorem dX9_of_6 : decode cX9_of 6 = .ok (.iload_n 2, 1) := by decide +kernel
theorem dX9_of_7 : decode cX9_of 7 = .ok (.iadd, 1) := by decide +kernel
theorem dX9_of_8 : decode cX9_of 8 = .ok (.iload_n 1, 1) := by decide +kernel
theorem dX9_of_9 : decode cX9_of 9 = .ok (.iadd, 1) := by decide +kernel
theorem dX9_of_10 : decode cX9_of 10 = .ok (.iaload, 1) := by decide +kernel
theorem dX9_of_11 : decode cX9_of 11 = .ok (.ireturn, 1) := by decide +kernel
theorem dX9_sets_0 : decode cX9_sets 0 = .ok (.aload_n 0, 1) := by decide +kernel
theorem dX9_sets_1 : decode cX9_sets 1 = .ok (.getfield 7, 3) := by decide +kernel
theorem dX9_sets_4 : decode cX9_sets 4 = .ok (.bipush 40, 2) := by decide +kernel
theorem dX9_sets_6 : decode cX9_sets 6 = .ok (.iload_n 2, 1) := by decide +kernel
theorem dX9_sets_7 : decode cX9_sets 7 = .ok (.iadd, 1) := by decide +kernel
theorem dX9_sets_8 : decode cX9_sets 8 = .ok (.iload_n 1, 1) := by decide +kernel
theorem dX9_sets_9 : decode cX9_sets 9 = .ok (.iadd, 1) := by decide +kernel
theorem dX9_sets_10 : decode cX9_sets 10 = .ok (.iload_n 3, 1) := by decide +kernel
theorem dX9_sets_11 : decode cX9_sets 11 = .ok (.iastore, 1) := by decide +kernel
theorem dX9_sets_12 : decode cX9_sets 12 = .ok (.return_, 1) := by decide +kernel
theorem dX9_adds_0 : decode cX9_adds 0 = .ok (.aload_n 0, 1) := by decide +kernel
theorem dX9_adds_1 : decode cX9_adds 1 = .ok (.getfield 7, 3) := by decide +kernel
theorem dX9_adds_4 : decode cX9_adds 4 = .ok (.bipush 40, 2) := by decide +kernel
theorem dX9_adds_6 : decode cX9_adds 6 = .ok (.iload_n 2, 1) := by decide +kernel
theorem dX9_adds_7 : decode cX9_adds 7 = .ok (.iadd, 1) := by decide +kernel
theorem dX9_adds_8 : decode cX9_adds 8 = .ok (.iload_n 1, 1) := by decide +kernel
theorem dX9_adds_9 : decode cX9_adds 9 = .ok (.iadd, 1) := by decide +kernel
theorem dX9_adds_10 : decode cX9_adds 10 = .ok (.dup2, 1) := by decide +kernel
theorem dX9_adds_11 : decode cX9_adds 11 = .ok (.iaload, 1) := by decide +kernel
theorem dX9_adds_12 : decode cX9_adds 12 = .ok (.iload_n 3, 1) := by decide +kernel
theorem dX9_adds_13 : decode cX9_adds 13 = .ok (.iadd, 1) := by decide +kernel
theorem dX9_adds_14 : decode cX9_adds 14 = .ok (.iastore, 1) := by decide +kernel
theorem dX9_adds_15 : decode cX9_adds 15 = .ok (.return_, 1) := by decide +kernel
theorem dX9_isNode_0 : decode cX9_isNode 0 = .ok (.iload_n 1, 1) := by decide +kernel
theorem dX9_isNode_1 : decode cX9_isNode 1 = .ok (.iconst 0, 1) := by decide +kernel
theorem dX9_isNode_2 : decode cX9_isNode 2 = .ok (.aload_n 0, 1) := by decide +kernel
theorem dX9_isNode_3 : decode cX9_isNode 3 = .ok (.getfield 7, 3) := by decide +kernel
theorem dX9_isNode_6 : decode cX9_isNode 6 = .ok (.iconst 0, 1) := by decide +kernel
theorem dX9_isNode_7 : decode cX9_isNode 7 = .ok (.iaload, 1) := by decide +kernel
theorem dX9_isNode_8 : decode cX9_isNode 8 = .ok (.iconst 1, 1) := by decide +kernel
theorem dX9_isNode_9 : decode cX9_isNode 9 = .ok (.isub, 1) := by decide +kernel
theorem dX9_isNode_10 : decode cX9_isNode 10 = .ok (.invokestatic 43, 3) := by decide +kernel
theorem dX9_isNode_13 : decode cX9_isNode 13 = .ok (.ireturn, 1) := by decide +kernel
theorem dX9_isIdle_0 : decode cX9_isIdle 0 = .ok (.aload_n 0, 1) := by decide +kernel
theorem dX9_isIdle_1 : decode cX9_isIdle 1 = .ok (.iload_n 1, 1) := by decide +kernel
theorem dX9_isIdle_2 : decode cX9_isIdle 2 = .ok (.iconst 0, 1) := by decide +kernel
theorem dX9_isIdle_3 : decode cX9_isIdle 3 = .ok (.invokevirtual 47, 3) := by decide +kernel
theorem dX9_isIdle_6 : decode cX9_isIdle 6 = .ok (.ifCond .ne 7, 3) := by decide +kernel
theorem dX9_isIdle_9 : decode cX9_isIdle 9 = .ok (.iconst 1, 1) := by decide +kernel
theorem dX9_isIdle_10 : decode cX9_isIdle 10 = .ok (.goto 4, 3) := by decide +kernel
theorem dX9_isIdle_13 : decode cX9_isIdle 13 = .ok (.iconst 0, 1) := by decide +kernel
theorem dX9_isIdle_14 : decode cX9_isIdle 14 = .ok (.ireturn, 1) := by decide +kernel
theorem dX9_letterOf_0 : decode cX9_letterOf 0 = .ok (.aload_n 0, 1) := by decide +kernel
theorem dX9_letterOf_1 : decode cX9_letterOf 1 = .ok (.getfield 7, 3) := by decide +kernel
theorem dX9_letterOf_4 : decode cX9_letterOf 4 = .ok (.sipush 664, 3) := by decide +kernel
theorem dX9_letterOf_7 : decode cX9_letterOf 7 = .ok (.bipush 9, 2) := by decide +kernel
theorem dX9_letterOf_9 : decode cX9_letterOf 9 = .ok (.iload_n 1, 1) := by decide +kernel
theorem dX9_letterOf_10 : decode cX9_letterOf 10 = .ok (.imul, 1) := by decide +kernel
theorem dX9_letterOf_11 : decode cX9_letterOf 11 = .ok (.iadd, 1) := by decide +kernel
theorem dX9_letterOf_12 : decode cX9_letterOf 12 = .ok (.iload_n 2, 1) := by decide +kernel
theorem dX9_letterOf_13 : decode cX9_letterOf 13 = .ok (.iadd, 1) := by decide +kernel
theorem dX9_letterOf_14 : decode cX9_letterOf 14 = .ok (.iaload, 1) := by decide +kernel
theorem dX9_letterOf_15 : decode cX9_letterOf 15 = .ok (.ireturn, 1) := by decide +kernel
theorem dX9_tellsOf_0 : decode cX9_tellsOf 0 = .ok (.bipush 23, 2) := by decide +kernel
theorem dX9_tellsOf_2 : decode cX9_tellsOf 2 = .ok (.istore_n 3, 1) := by decide +kernel
theorem dX9_tellsOf_3 : decode cX9_tellsOf 3 = .ok (.iload_n 3, 1) := by decide +kernel
theorem dX9_tellsOf_4 : decode cX9_tellsOf 4 = .ok (.ifCond .le 56, 3) := by decide +kernel
theorem dX9_tellsOf_7 : decode cX9_tellsOf 7 = .ok (.iconst 0, 1) := by decide +kernel
theorem dX9_tellsOf_8 : decode cX9_tellsOf 8 = .ok (.istore 4, 2) := by decide +kernel
theorem dX9_tellsOf_10 : decode cX9_tellsOf 10 = .ok (.iload 4, 2) := by decide +kernel
theorem dX9_tellsOf_12 : decode cX9_tellsOf 12 = .ok (.iconst 3, 1) := by decide +kernel
theorem dX9_tellsOf_13 : decode cX9_tellsOf 13 = .ok (.if_icmp .ge 41, 3) := by decide +kernel
theorem dX9_tellsOf_16 : decode cX9_tellsOf 16 = .ok (.aload_n 0, 1) := by decide +kernel
theorem dX9_tellsOf_17 : decode cX9_tellsOf 17 = .ok (.getfield 7, 3) := by decide +kernel
theorem dX9_tellsOf_20 : decode cX9_tellsOf 20 = .ok (.sipush 8224, 3) := by decide +kernel
theorem dX9_tellsOf_23 : decode cX9_tellsOf 23 = .ok (.iconst 3, 1) := by decide +kernel
theorem dX9_tellsOf_24 : decode cX9_tellsOf 24 = .ok (.iload_n 3, 1) := by decide +kernel
theorem dX9_tellsOf_25 : decode cX9_tellsOf 25 = .ok (.imul, 1) := by decide +kernel
theorem dX9_tellsOf_26 : decode cX9_tellsOf 26 = .ok (.iadd, 1) := by decide +kernel
theorem dX9_tellsOf_27 : decode cX9_tellsOf 27 = .ok (.iload 4, 2) := by decide +kernel
theorem dX9_tellsOf_29 : decode cX9_tellsOf 29 = .ok (.iadd, 1) := by decide +kernel
theorem dX9_tellsOf_30 : decode cX9_tellsOf 30 = .ok (.aload_n 0, 1) := by decide +kernel
theorem dX9_tellsOf_31 : decode cX9_tellsOf 31 = .ok (.getfield 7, 3) := by decide +kernel
theorem dX9_tellsOf_34 : decode cX9_tellsOf 34 = .ok (.sipush 8224, 3) := by decide +kernel
theorem dX9_tellsOf_37 : decode cX9_tellsOf 37 = .ok (.iconst 3, 1) := by decide +kernel
theorem dX9_tellsOf_38 : decode cX9_tellsOf 38 = .ok (.iload_n 3, 1) := by decide +kernel
theorem dX9_tellsOf_39 : decode cX9_tellsOf 39 = .ok (.imul, 1) := by decide +kernel
theorem dX9_tellsOf_40 : decode cX9_tellsOf 40 = .ok (.iadd, 1) := by decide +kernel
theorem dX9_tellsOf_41 : decode cX9_tellsOf 41 = .ok (.iconst 3, 1) := by decide +kernel
theorem dX9_tellsOf_42 : decode cX9_tellsOf 42 = .ok (.isub, 1) := by decide +kernel
theorem dX9_tellsOf_43 : decode cX9_tellsOf 43 = .ok (.iload 4, 2) := by decide +kernel
theorem dX9_tellsOf_45 : decode cX9_tellsOf 45 = .ok (.iadd, 1) := by decide +kernel
theorem dX9_tellsOf_46 : decode cX9_tellsOf 46 = .ok (.iaload, 1) := by decide +kernel
theorem dX9_tellsOf_47 : decode cX9_tellsOf 47 = .ok (.iastore, 1) := by decide +kernel
theorem dX9_tellsOf_48 : decode cX9_tellsOf 48 = .ok (.iinc 4 1, 3) := by decide +kernel
theorem dX9_tellsOf_51 : decode cX9_tellsOf 51 = .ok (.goto (-41), 3) := by decide +kernel
theorem dX9_tellsOf_54 : decode cX9_tellsOf 54 = .ok (.iinc 3 (-1), 3) := by decide +kernel
theorem dX9_tellsOf_57 : decode cX9_tellsOf 57 = .ok (.goto (-54), 3) := by decide +kernel
theorem dX9_tellsOf_60 : decode cX9_tellsOf 60 = .ok (.aload_n 0, 1) := by decide +kernel
theorem dX9_tellsOf_61 : decode cX9_tellsOf 61 = .ok (.getfield 7, 3) := by decide +kernel
theorem dX9_tellsOf_64 : decode cX9_tellsOf 64 = .ok (.sipush 8224, 3) := by decide +kernel
theorem dX9_tellsOf_67 : decode cX9_tellsOf 67 = .ok (.iload_n 1, 1) := by decide +kernel
theorem dX9_tellsOf_68 : decode cX9_tellsOf 68 = .ok (.iastore, 1) := by decide +kernel
theorem dX9_tellsOf_69 : decode cX9_tellsOf 69 = .ok (.aload_n 0, 1) := by decide +kernel
theorem dX9_tellsOf_70 : decode cX9_tellsOf 70 = .ok (.getfield 7, 3) := by decide +kernel
theorem dX9_tellsOf_73 : decode cX9_tellsOf 73 = .ok (.sipush 8225, 3) := by decide +kernel
theorem dX9_tellsOf_76 : decode cX9_tellsOf 76 = .ok (.aload_n 0, 1) := by decide +kernel
theorem dX9_tellsOf_77 : decode cX9_tellsOf 77 = .ok (.getfield 7, 3) := by decide +kernel
theorem dX9_tellsOf_80 : decode cX9_tellsOf 80 = .ok (.iconst 4, 1) := by decide +kernel
theorem dX9_tellsOf_81 : decode cX9_tellsOf 81 = .ok (.iaload, 1) := by decide +kernel
theorem dX9_tellsOf_82 : decode cX9_tellsOf 82 = .ok (.iastore, 1) := by decide +kernel
theorem dX9_tellsOf_83 : decode cX9_tellsOf 83 = .ok (.aload_n 0, 1) := by decide +kernel
theorem dX9_tellsOf_84 : decode cX9_tellsOf 84 = .ok (.getfield 7, 3) := by decide +kernel
theorem dX9_tellsOf_87 : decode cX9_tellsOf 87 = .ok (.sipush 8226, 3) := by decide +kernel
theorem dX9_tellsOf_90 : decode cX9_tellsOf 90 = .ok (.iload_n 2, 1) := by decide +kernel
theorem dX9_tellsOf_91 : decode cX9_tellsOf 91 = .ok (.iastore, 1) := by decide +kernel
theorem dX9_tellsOf_92 : decode cX9_tellsOf 92 = .ok (.aload_n 0, 1) := by decide +kernel
theorem dX9_tellsOf_93 : decode cX9_tellsOf 93 = .ok (.getfield 7, 3) := by decide +kernel
theorem dX9_tellsOf_96 : decode cX9_tellsOf 96 = .ok (.iconst 3, 1) := by decide +kernel
theorem dX9_tellsOf_97 : decode cX9_tellsOf 97 = .ok (.aload_n 0, 1) := by decide +kernel
theorem dX9_tellsOf_98 : decode cX9_tellsOf 98 = .ok (.getfield 7, 3) := by decide +kernel
theorem dX9_tellsOf_101 : decode cX9_tellsOf 101 = .ok (.iconst 3, 1) := by decide +kernel
theorem dX9_tellsOf_102 : decode cX9_tellsOf 102 = .ok (.iaload, 1) := by decide +kernel
theorem dX9_tellsOf_103 : decode cX9_tellsOf 103 = .ok (.bipush 24, 2) := by decide +kernel
theorem dX9_tellsOf_105 : decode cX9_tellsOf 105 = .ok (.if_icmp .ge 14, 3) := by decide +kernel
theorem dX9_tellsOf_108 : decode cX9_tellsOf 108 = .ok (.aload_n 0, 1) := by decide +kernel
theorem dX9_tellsOf_109 : decode cX9_tellsOf 109 = .ok (.getfield 7, 3) := by decide +kernel
theorem dX9_tellsOf_112 : decode cX9_tellsOf 112 = .ok (.iconst 3, 1) := by decide +kernel
theorem dX9_tellsOf_113 : decode cX9_tellsOf 113 = .ok (.iaload, 1) := by decide +kernel
theorem dX9_tellsOf_114 : decode cX9_tellsOf 114 = .ok (.iconst 1, 1) := by decide +kernel
theorem dX9_tellsOf_115 : decode cX9_tellsOf 115 = .ok (.iadd, 1) := by decide +kernel
theorem dX9_tellsOf_116 : decode cX9_tellsOf 116 = .ok (.goto 5, 3) := by decide +kernel
theorem dX9_tellsOf_119 : decode cX9_tellsOf 119 = .ok (.bipush 24, 2) := by decide +kernel
theorem dX9_tellsOf_121 : decode cX9_tellsOf 121 = .ok (.iastore, 1) := by decide +kernel
theorem dX9_tellsOf_122 : decode cX9_tellsOf 122 = .ok (.return_, 1) := by decide +kernel
theorem dX9_told_0 : decode cX9_told 0 = .ok (.aload_n 0, 1) := by decide +kernel
theorem dX9_told_1 : decode cX9_told 1 = .ok (.getfield 7, 3) := by decide +kernel
theorem dX9_told_4 : decode cX9_told 4 = .ok (.bipush 8, 2) := by decide +kernel
theorem dX9_told_6 : decode cX9_told 6 = .ok (.iload_n 1, 1) := by decide +kernel
theorem dX9_told_7 : decode cX9_told 7 = .ok (.iadd, 1) := by decide +kernel
theorem dX9_told_8 : decode cX9_told 8 = .ok (.aload_n 0, 1) := by decide +kernel
theorem dX9_told_9 : decode cX9_told 9 = .ok (.getfield 7, 3) := by decide +kernel
theorem dX9_told_12 : decode cX9_told 12 = .ok (.iconst 4, 1) := by decide +kernel
theorem dX9_told_13 : decode cX9_told 13 = .ok (.iaload, 1) := by decide +kernel
theorem dX9_told_14 : decode cX9_told 14 = .ok (.iastore, 1) := by decide +kernel
theorem dX9_told_15 : decode cX9_told 15 = .ok (.aload_n 0, 1) := by decide +kernel
theorem dX9_told_16 : decode cX9_told 16 = .ok (.iconst 4, 1) := by decide +kernel
theorem dX9_told_17 : decode cX9_told 17 = .ok (.iload_n 1, 1) := by decide +kernel
theorem dX9_told_18 : decode cX9_told 18 = .ok (.invokevirtual 51, 3) := by decide +kernel
theorem dX9_told_21 : decode cX9_told 21 = .ok (.return_, 1) := by decide +kernel
theorem dX9_hasTold_0 : decode cX9_hasTold 0 = .ok (.aload_n 0, 1) := by decide +kernel
theorem dX9_hasTold_1 : decode cX9_hasTold 1 = .ok (.getfield 7, 3) := by decide +kernel
theorem dX9_hasTold_4 : decode cX9_hasTold 4 = .ok (.bipush 8, 2) := by decide +kernel
theorem dX9_hasTold_6 : decode cX9_hasTold 6 = .ok (.iload_n 1, 1) := by decide +kernel
theorem dX9_hasTold_7 : decode cX9_hasTold 7 = .ok (.iadd, 1) := by decide +kernel
theorem dX9_hasTold_8 : decode cX9_hasTold 8 = .ok (.iaload, 1) := by decide +kernel
theorem dX9_hasTold_9 : decode cX9_hasTold 9 = .ok (.iconst (-1), 1) := by decide +kernel
theorem dX9_hasTold_10 : decode cX9_hasTold 10 = .ok (.if_icmp .eq 7, 3) := by decide +kernel
theorem dX9_hasTold_13 : decode cX9_hasTold 13 = .ok (.iconst 1, 1) := by decide +kernel
theorem dX9_hasTold_14 : decode cX9_hasTold 14 = .ok (.goto 4, 3) := by decide +kernel
theorem dX9_hasTold_17 : decode cX9_hasTold 17 = .ok (.iconst 0, 1) := by decide +kernel
theorem dX9_hasTold_18 : decode cX9_hasTold 18 = .ok (.ireturn, 1) := by decide +kernel
theorem dX9_posts_0 : decode cX9_posts 0 = .ok (.aload_n 0, 1) := by decide +kernel
theorem dX9_posts_1 : decode cX9_posts 1 = .ok (.getfield 7, 3) := by decide +kernel
theorem dX9_posts_4 : decode cX9_posts 4 = .ok (.iconst 2, 1) := by decide +kernel
theorem dX9_posts_5 : decode cX9_posts 5 = .ok (.iaload, 1) := by decide +kernel
theorem dX9_posts_6 : decode cX9_posts 6 = .ok (.istore 4, 2) := by decide +kernel
theorem dX9_posts_8 : decode cX9_posts 8 = .ok (.sipush 664, 3) := by decide +kernel
theorem dX9_posts_11 : decode cX9_posts 11 = .ok (.bipush 9, 2) := by decide +kernel
theorem dX9_posts_13 : decode cX9_posts 13 = .ok (.iload 4, 2) := by decide +kernel
theorem dX9_posts_15 : decode cX9_posts 15 = .ok (.imul, 1) := by decide +kernel
theorem dX9_posts_16 : decode cX9_posts 16 = .ok (.iadd, 1) := by decide +kernel
theorem dX9_posts_17 : decode cX9_posts 17 = .ok (.istore 5, 2) := by decide +kernel
theorem dX9_posts_19 : decode cX9_posts 19 = .ok (.bipush 8, 2) := by decide +kernel
theorem dX9_posts_21 : decode cX9_posts 21 = .ok (.iload_n 2, 1) := by decide +kernel
theorem dX9_posts_22 : decode cX9_posts 22 = .ok (.imul, 1) := by decide +kernel
theorem dX9_posts_23 : decode cX9_posts 23 = .ok (.iload_n 3, 1) := by decide +kernel
theorem dX9_posts_24 : decode cX9_posts 24 = .ok (.iadd, 1) := by decide +kernel
theorem dX9_posts_25 : decode cX9_posts 25 = .ok (.istore 6, 2) := by decide +kernel
theorem dX9_posts_27 : decode cX9_posts 27 = .ok (.aload_n 0, 1) := by decide +kernel
theorem dX9_posts_28 : decode cX9_posts 28 = .ok (.getfield 7, 3) := by decide +kernel
theorem dX9_posts_31 : decode cX9_posts 31 = .ok (.iload 5, 2) := by decide +kernel
theorem dX9_posts_33 : decode cX9_posts 33 = .ok (.iconst 0, 1) := by decide +kernel
theorem dX9_posts_34 : decode cX9_posts 34 = .ok (.iadd, 1) := by decide +kernel
theorem dX9_posts_35 : decode cX9_posts 35 = .ok (.iload_n 1, 1) := by decide +kernel
theorem dX9_posts_36 : decode cX9_posts 36 = .ok (.iastore, 1) := by decide +kernel
theorem dX9_posts_37 : decode cX9_posts 37 = .ok (.aload_n 0, 1) := by decide +kernel
theorem dX9_posts_38 : decode cX9_posts 38 = .ok (.getfield 7, 3) := by decide +kernel
theorem dX9_posts_41 : decode cX9_posts 41 = .ok (.iload 5, 2) := by decide +kernel
theorem dX9_posts_43 : decode cX9_posts 43 = .ok (.iconst 1, 1) := by decide +kernel
theorem dX9_posts_44 : decode cX9_posts 44 = .ok (.iadd, 1) := by decide +kernel
theorem dX9_posts_45 : decode cX9_posts 45 = .ok (.iload_n 2, 1) := by decide +kernel
theorem dX9_posts_46 : decode cX9_posts 46 = .ok (.iastore, 1) := by decide +kernel
theorem dX9_posts_47 : decode cX9_posts 47 = .ok (.aload_n 0, 1) := by decide +kernel
theorem dX9_posts_48 : decode cX9_posts 48 = .ok (.getfield 7, 3) := by decide +kernel
theorem dX9_posts_51 : decode cX9_posts 51 = .ok (.iload 5, 2) := by decide +kernel
theorem dX9_posts_53 : decode cX9_posts 53 = .ok (.iconst 2, 1) := by decide +kernel
theorem dX9_posts_54 : decode cX9_posts 54 = .ok (.iadd, 1) := by decide +kernel
theorem dX9_posts_55 : decode cX9_posts 55 = .ok (.iload_n 3, 1) := by decide +kernel
theorem dX9_posts_56 : decode cX9_posts 56 = .ok (.iastore, 1) := by decide +kernel
theorem dX9_posts_57 : decode cX9_posts 57 = .ok (.aload_n 0, 1) := by decide +kernel
theorem dX9_posts_58 : decode cX9_posts 58 = .ok (.getfield 7, 3) := by decide +kernel
theorem dX9_posts_61 : decode cX9_posts 61 = .ok (.iload 5, 2) := by decide +kernel
theorem dX9_posts_63 : decode cX9_posts 63 = .ok (.iconst 3, 1) := by decide +kernel
theorem dX9_posts_64 : decode cX9_posts 64 = .ok (.iadd, 1) := by decide +kernel
theorem dX9_posts_65 : decode cX9_posts 65 = .ok (.aload_n 0, 1) := by decide +kernel
theorem dX9_posts_66 : decode cX9_posts 66 = .ok (.getfield 7, 3) := by decide +kernel
theorem dX9_posts_69 : decode cX9_posts 69 = .ok (.iconst 4, 1) := by decide +kernel
theorem dX9_posts_70 : decode cX9_posts 70 = .ok (.iaload, 1) := by decide +kernel
theorem dX9_posts_71 : decode cX9_posts 71 = .ok (.aload_n 0, 1) := by decide +kernel
theorem dX9_posts_72 : decode cX9_posts 72 = .ok (.getfield 7, 3) := by decide +kernel
theorem dX9_posts_75 : decode cX9_posts 75 = .ok (.sipush 184, 3) := by decide +kernel
theorem dX9_posts_78 : decode cX9_posts 78 = .ok (.iload 6, 2) := by decide +kernel
theorem dX9_posts_80 : decode cX9_posts 80 = .ok (.iadd, 1) := by decide +kernel
theorem dX9_posts_81 : decode cX9_posts 81 = .ok (.iaload, 1) := by decide +kernel
theorem dX9_posts_82 : decode cX9_posts 82 = .ok (.iadd, 1) := by decide +kernel
theorem dX9_posts_83 : decode cX9_posts 83 = .ok (.iastore, 1) := by decide +kernel
theorem dX9_posts_84 : decode cX9_posts 84 = .ok (.aload_n 0, 1) := by decide +kernel
theorem dX9_posts_85 : decode cX9_posts 85 = .ok (.getfield 7, 3) := by decide +kernel
theorem dX9_posts_88 : decode cX9_posts 88 = .ok (.iload 5, 2) := by decide +kernel
theorem dX9_posts_90 : decode cX9_posts 90 = .ok (.iconst 4, 1) := by decide +kernel
theorem dX9_posts_91 : decode cX9_posts 91 = .ok (.iadd, 1) := by decide +kernel
theorem dX9_posts_92 : decode cX9_posts 92 = .ok (.iconst 0, 1) := by decide +kernel
theorem dX9_posts_93 : decode cX9_posts 93 = .ok (.iastore, 1) := by decide +kernel
theorem dX9_posts_94 : decode cX9_posts 94 = .ok (.aload_n 0, 1) := by decide +kernel
theorem dX9_posts_95 : decode cX9_posts 95 = .ok (.getfield 7, 3) := by decide +kernel
theorem dX9_posts_98 : decode cX9_posts 98 = .ok (.iload 5, 2) := by decide +kernel
theorem dX9_posts_100 : decode cX9_posts 100 = .ok (.iconst 5, 1) := by decide +kernel
theorem dX9_posts_101 : decode cX9_posts 101 = .ok (.iadd, 1) := by decide +kernel
theorem dX9_posts_102 : decode cX9_posts 102 = .ok (.iconst 0, 1) := by decide +kernel
theorem dX9_posts_103 : decode cX9_posts 103 = .ok (.iastore, 1) := by decide +kernel
theorem dX9_posts_104 : decode cX9_posts 104 = .ok (.aload_n 0, 1) := by decide +kernel
theorem dX9_posts_105 : decode cX9_posts 105 = .ok (.getfield 7, 3) := by decide +kernel
theorem dX9_posts_108 : decode cX9_posts 108 = .ok (.iload 5, 2) := by decide +kernel
theorem dX9_posts_110 : decode cX9_posts 110 = .ok (.bipush 6, 2) := by decide +kernel
theorem dX9_posts_112 : decode cX9_posts 112 = .ok (.iadd, 1) := by decide +kernel
theorem dX9_posts_113 : decode cX9_posts 113 = .ok (.iconst 0, 1) := by decide +kernel
theorem dX9_posts_114 : decode cX9_posts 114 = .ok (.iastore, 1) := by decide +kernel
theorem dX9_posts_115 : decode cX9_posts 115 = .ok (.aload_n 0, 1) := by decide +kernel
theorem dX9_posts_116 : decode cX9_posts 116 = .ok (.getfield 7, 3) := by decide +kernel
theorem dX9_posts_119 : decode cX9_posts 119 = .ok (.iload 5, 2) := by decide +kernel
theorem dX9_posts_121 : decode cX9_posts 121 = .ok (.bipush 7, 2) := by decide +kernel
theorem dX9_posts_123 : decode cX9_posts 123 = .ok (.iadd, 1) := by decide +kernel
theorem dX9_posts_124 : decode cX9_posts 124 = .ok (.aload_n 0, 1) := by decide +kernel
theorem dX9_posts_125 : decode cX9_posts 125 = .ok (.iload_n 2, 1) := by decide +kernel
theorem dX9_posts_126 : decode cX9_posts 126 = .ok (.bipush 96, 2) := by decide +kernel
theorem dX9_posts_128 : decode cX9_posts 128 = .ok (.invokevirtual 47, 3) := by decide +kernel
theorem dX9_posts_131 : decode cX9_posts 131 = .ok (.iastore, 1) := by decide +kernel
theorem dX9_posts_132 : decode cX9_posts 132 = .ok (.aload_n 0, 1) := by decide +kernel
theorem dX9_posts_133 : decode cX9_posts 133 = .ok (.getfield 7, 3) := by decide +kernel
theorem dX9_posts_136 : decode cX9_posts 136 = .ok (.iconst 2, 1) := by decide +kernel
theorem dX9_posts_137 : decode cX9_posts 137 = .ok (.dup2, 1) := by decide +kernel
theorem dX9_posts_138 : decode cX9_posts 138 = .ok (.iaload, 1) := by decide +kernel
theorem dX9_posts_139 : decode cX9_posts 139 = .ok (.iconst 1, 1) := by decide +kernel
theorem dX9_posts_140 : decode cX9_posts 140 = .ok (.iadd, 1) := by decide +kernel
theorem dX9_posts_141 : decode cX9_posts 141 = .ok (.iastore, 1) := by decide +kernel
theorem dX9_posts_142 : decode cX9_posts 142 = .ok (.aload_n 0, 1) := by decide +kernel
theorem dX9_posts_143 : decode cX9_posts 143 = .ok (.getfield 7, 3) := by decide +kernel
theorem dX9_posts_146 : decode cX9_posts 146 = .ok (.iload_n 1, 1) := by decide +kernel
theorem dX9_posts_147 : decode cX9_posts 147 = .ok (.ifCond .ne 9, 3) := by decide +kernel
theorem dX9_posts_150 : decode cX9_posts 150 = .ok (.sipush 248, 3) := by decide +kernel
theorem dX9_posts_153 : decode cX9_posts 153 = .ok (.goto 6, 3) := by decide +kernel
theorem dX9_posts_156 : decode cX9_posts 156 = .ok (.sipush 312, 3) := by decide +kernel
theorem dX9_posts_159 : decode cX9_posts 159 = .ok (.iload 6, 2) := by decide +kernel
theorem dX9_posts_161 : decode cX9_posts 161 = .ok (.iadd, 1) := by decide +kernel
theorem dX9_posts_162 : decode cX9_posts 162 = .ok (.dup2, 1) := by decide +kernel
theorem dX9_posts_163 : decode cX9_posts 163 = .ok (.iaload, 1) := by decide +kernel
theorem dX9_posts_164 : decode cX9_posts 164 = .ok (.iconst 1, 1) := by decide +kernel
theorem dX9_posts_165 : decode cX9_posts 165 = .ok (.iadd, 1) := by decide +kernel
theorem dX9_posts_166 : decode cX9_posts 166 = .ok (.iastore, 1) := by decide +kernel
theorem dX9_posts_167 : decode cX9_posts 167 = .ok (.aload_n 0, 1) := by decide +kernel
theorem dX9_posts_168 : decode cX9_posts 168 = .ok (.getfield 7, 3) := by decide +kernel
theorem dX9_posts_171 : decode cX9_posts 171 = .ok (.sipush 376, 3) := by decide +kernel
theorem dX9_posts_174 : decode cX9_posts 174 = .ok (.iload 6, 2) := by decide +kernel
theorem dX9_posts_176 : decode cX9_posts 176 = .ok (.iadd, 1) := by decide +kernel
theorem dX9_posts_177 : decode cX9_posts 177 = .ok (.dup2, 1) := by decide +kernel
theorem dX9_posts_178 : decode cX9_posts 178 = .ok (.iaload, 1) := by decide +kernel
theorem dX9_posts_179 : decode cX9_posts 179 = .ok (.aload_n 0, 1) := by decide +kernel
theorem dX9_posts_180 : decode cX9_posts 180 = .ok (.getfield 7, 3) := by decide +kernel
theorem dX9_posts_183 : decode cX9_posts 183 = .ok (.sipush 184, 3) := by decide +kernel
theorem dX9_posts_186 : decode cX9_posts 186 = .ok (.iload 6, 2) := by decide +kernel
theorem dX9_posts_188 : decode cX9_posts 188 = .ok (.iadd, 1) := by decide +kernel
theorem dX9_posts_189 : decode cX9_posts 189 = .ok (.iaload, 1) := by decide +kernel
theorem dX9_posts_190 : decode cX9_posts 190 = .ok (.iadd, 1) := by decide +kernel
theorem dX9_posts_191 : decode cX9_posts 191 = .ok (.iastore, 1) := by decide +kernel
theorem dX9_posts_192 : decode cX9_posts 192 = .ok (.iload 5, 2) := by decide +kernel
theorem dX9_posts_194 : decode cX9_posts 194 = .ok (.ireturn, 1) := by decide +kernel
theorem dX9_signals_0 : decode cX9_signals 0 = .ok (.aload_n 0, 1) := by decide +kernel
theorem dX9_signals_1 : decode cX9_signals 1 = .ok (.getfield 7, 3) := by decide +kernel
theorem dX9_signals_4 : decode cX9_signals 4 = .ok (.bipush 12, 2) := by decide +kernel
theorem dX9_signals_6 : decode cX9_signals 6 = .ok (.iload_n 1, 1) := by decide +kernel
theorem dX9_signals_7 : decode cX9_signals 7 = .ok (.iadd, 1) := by decide +kernel
theorem dX9_signals_8 : decode cX9_signals 8 = .ok (.dup2, 1) := by decide +kernel
theorem dX9_signals_9 : decode cX9_signals 9 = .ok (.iaload, 1) := by decide +kernel
theorem dX9_signals_10 : decode cX9_signals 10 = .ok (.iconst 1, 1) := by decide +kernel
theorem dX9_signals_11 : decode cX9_signals 11 = .ok (.iadd, 1) := by decide +kernel
theorem dX9_signals_12 : decode cX9_signals 12 = .ok (.iastore, 1) := by decide +kernel
theorem dX9_signals_13 : decode cX9_signals 13 = .ok (.aload_n 0, 1) := by decide +kernel
theorem dX9_signals_14 : decode cX9_signals 14 = .ok (.iload_n 2, 1) := by decide +kernel
theorem dX9_signals_15 : decode cX9_signals 15 = .ok (.iload_n 3, 1) := by decide +kernel
theorem dX9_signals_16 : decode cX9_signals 16 = .ok (.iload 4, 2) := by decide +kernel
theorem dX9_signals_18 : decode cX9_signals 18 = .ok (.invokevirtual 55, 3) := by decide +kernel
theorem dX9_signals_21 : decode cX9_signals 21 = .ok (.pop, 1) := by decide +kernel
theorem dX9_signals_22 : decode cX9_signals 22 = .ok (.return_, 1) := by decide +kernel
theorem dX9_sendsWork_0 : decode cX9_sendsWork 0 = .ok (.aload_n 0, 1) := by decide +kernel
theorem dX9_sendsWork_1 : decode cX9_sendsWork 1 = .ok (.iload_n 1, 1) := by decide +kernel
theorem dX9_sendsWork_2 : decode cX9_sendsWork 2 = .ok (.bipush 16, 2) := by decide +kernel
theorem dX9_sendsWork_4 : decode cX9_sendsWork 4 = .ok (.iconst 1, 1) := by decide +kernel
theorem dX9_sendsWork_5 : decode cX9_sendsWork 5 = .ok (.invokevirtual 59, 3) := by decide +kernel
theorem dX9_sendsWork_8 : decode cX9_sendsWork 8 = .ok (.aload_n 0, 1) := by decide +kernel
theorem dX9_sendsWork_9 : decode cX9_sendsWork 9 = .ok (.getfield 7, 3) := by decide +kernel
theorem dX9_sendsWork_12 : decode cX9_sendsWork 12 = .ok (.bipush 7, 2) := by decide +kernel
theorem dX9_sendsWork_14 : decode cX9_sendsWork 14 = .ok (.dup2, 1) := by decide +kernel
theorem dX9_sendsWork_15 : decode cX9_sendsWork 15 = .ok (.iaload, 1) := by decide +kernel
theorem dX9_sendsWork_16 : decode cX9_sendsWork 16 = .ok (.iconst 1, 1) := by decide +kernel
theorem dX9_sendsWork_17 : decode cX9_sendsWork 17 = .ok (.iadd, 1) := by decide +kernel
theorem dX9_sendsWork_18 : decode cX9_sendsWork 18 = .ok (.iastore, 1) := by decide +kernel
theorem dX9_sendsWork_19 : decode cX9_sendsWork 19 = .ok (.aload_n 0, 1) := by decide +kernel
theorem dX9_sendsWork_20 : decode cX9_sendsWork 20 = .ok (.iload_n 1, 1) := by decide +kernel
theorem dX9_sendsWork_21 : decode cX9_sendsWork 21 = .ok (.bipush 48, 2) := by decide +kernel
theorem dX9_sendsWork_23 : decode cX9_sendsWork 23 = .ok (.iconst 1, 1) := by decide +kernel
theorem dX9_sendsWork_24 : decode cX9_sendsWork 24 = .ok (.invokevirtual 59, 3) := by decide +kernel
theorem dX9_sendsWork_27 : decode cX9_sendsWork 27 = .ok (.aload_n 0, 1) := by decide +kernel
theorem dX9_sendsWork_28 : decode cX9_sendsWork 28 = .ok (.iload_n 1, 1) := by decide +kernel
theorem dX9_sendsWork_29 : decode cX9_sendsWork 29 = .ok (.bipush 56, 2) := by decide +kernel
theorem dX9_sendsWork_31 : decode cX9_sendsWork 31 = .ok (.iconst 1, 1) := by decide +kernel
theorem dX9_sendsWork_32 : decode cX9_sendsWork 32 = .ok (.invokevirtual 59, 3) := by decide +kernel
theorem dX9_sendsWork_35 : decode cX9_sendsWork 35 = .ok (.aload_n 0, 1) := by decide +kernel
theorem dX9_sendsWork_36 : decode cX9_sendsWork 36 = .ok (.iload_n 1, 1) := by decide +kernel
theorem dX9_sendsWork_37 : decode cX9_sendsWork 37 = .ok (.bipush 72, 2) := by decide +kernel
theorem dX9_sendsWork_39 : decode cX9_sendsWork 39 = .ok (.invokevirtual 47, 3) := by decide +kernel
theorem dX9_sendsWork_42 : decode cX9_sendsWork 42 = .ok (.iconst 1, 1) := by decide +kernel
theorem dX9_sendsWork_43 : decode cX9_sendsWork 43 = .ok (.if_icmp .ne 54, 3) := by decide +kernel
theorem dX9_sendsWork_46 : decode cX9_sendsWork 46 = .ok (.aload_n 0, 1) := by decide +kernel
theorem dX9_sendsWork_47 : decode cX9_sendsWork 47 = .ok (.iload_n 1, 1) := by decide +kernel
theorem dX9_sendsWork_48 : decode cX9_sendsWork 48 = .ok (.bipush 72, 2) := by decide +kernel
theorem dX9_sendsWork_50 : decode cX9_sendsWork 50 = .ok (.sipush 1024, 3) := by decide +kernel
theorem dX9_sendsWork_53 : decode cX9_sendsWork 53 = .ok (.invokevirtual 59, 3) := by decide +kernel
theorem dX9_sendsWork_56 : decode cX9_sendsWork 56 = .ok (.aload_n 0, 1) := by decide +kernel
theorem dX9_sendsWork_57 : decode cX9_sendsWork 57 = .ok (.getfield 7, 3) := by decide +kernel
theorem dX9_sendsWork_60 : decode cX9_sendsWork 60 = .ok (.bipush 22, 2) := by decide +kernel
theorem dX9_sendsWork_62 : decode cX9_sendsWork 62 = .ok (.dup2, 1) := by decide +kernel
theorem dX9_sendsWork_63 : decode cX9_sendsWork 63 = .ok (.iaload, 1) := by decide +kernel
theorem dX9_sendsWork_64 : decode cX9_sendsWork 64 = .ok (.sipush 1024, 3) := by decide +kernel
theorem dX9_sendsWork_67 : decode cX9_sendsWork 67 = .ok (.iadd, 1) := by decide +kernel
theorem dX9_sendsWork_68 : decode cX9_sendsWork 68 = .ok (.iastore, 1) := by decide +kernel
theorem dX9_sendsWork_69 : decode cX9_sendsWork 69 = .ok (.aload_n 0, 1) := by decide +kernel
theorem dX9_sendsWork_70 : decode cX9_sendsWork 70 = .ok (.getfield 7, 3) := by decide +kernel
theorem dX9_sendsWork_73 : decode cX9_sendsWork 73 = .ok (.bipush 24, 2) := by decide +kernel
theorem dX9_sendsWork_75 : decode cX9_sendsWork 75 = .ok (.dup2, 1) := by decide +kernel
theorem dX9_sendsWork_76 : decode cX9_sendsWork 76 = .ok (.iaload, 1) := by decide +kernel
theorem dX9_sendsWork_77 : decode cX9_sendsWork 77 = .ok (.iconst 1, 1) := by decide +kernel
theorem dX9_sendsWork_78 : decode cX9_sendsWork 78 = .ok (.iadd, 1) := by decide +kernel
theorem dX9_sendsWork_79 : decode cX9_sendsWork 79 = .ok (.iastore, 1) := by decide +kernel
theorem dX9_sendsWork_80 : decode cX9_sendsWork 80 = .ok (.aload_n 0, 1) := by decide +kernel
theorem dX9_sendsWork_81 : decode cX9_sendsWork 81 = .ok (.getfield 7, 3) := by decide +kernel
theorem dX9_sendsWork_84 : decode cX9_sendsWork 84 = .ok (.bipush 14, 2) := by decide +kernel
theorem dX9_sendsWork_86 : decode cX9_sendsWork 86 = .ok (.dup2, 1) := by decide +kernel
theorem dX9_sendsWork_87 : decode cX9_sendsWork 87 = .ok (.iaload, 1) := by decide +kernel
theorem dX9_sendsWork_88 : decode cX9_sendsWork 88 = .ok (.iconst 2, 1) := by decide +kernel
theorem dX9_sendsWork_89 : decode cX9_sendsWork 89 = .ok (.iadd, 1) := by decide +kernel
theorem dX9_sendsWork_90 : decode cX9_sendsWork 90 = .ok (.iastore, 1) := by decide +kernel
theorem dX9_sendsWork_91 : decode cX9_sendsWork 91 = .ok (.aload_n 0, 1) := by decide +kernel
theorem dX9_sendsWork_92 : decode cX9_sendsWork 92 = .ok (.iconst 5, 1) := by decide +kernel
theorem dX9_sendsWork_93 : decode cX9_sendsWork 93 = .ok (.iload_n 1, 1) := by decide +kernel
theorem dX9_sendsWork_94 : decode cX9_sendsWork 94 = .ok (.invokevirtual 51, 3) := by decide +kernel
theorem dX9_sendsWork_97 : decode cX9_sendsWork 97 = .ok (.aload_n 0, 1) := by decide +kernel
theorem dX9_sendsWork_98 : decode cX9_sendsWork 98 = .ok (.iload_n 1, 1) := by decide +kernel
theorem dX9_sendsWork_99 : decode cX9_sendsWork 99 = .ok (.bipush 72, 2) := by decide +kernel
theorem dX9_sendsWork_101 : decode cX9_sendsWork 101 = .ok (.invokevirtual 47, 3) := by decide +kernel
theorem dX9_sendsWork_104 : decode cX9_sendsWork 104 = .ok (.iconst 2, 1) := by decide +kernel
theorem dX9_sendsWork_105 : decode cX9_sendsWork 105 = .ok (.idiv, 1) := by decide +kernel
theorem dX9_sendsWork_106 : decode cX9_sendsWork 106 = .ok (.istore 4, 2) := by decide +kernel
theorem dX9_sendsWork_108 : decode cX9_sendsWork 108 = .ok (.aload_n 0, 1) := by decide +kernel
theorem dX9_sendsWork_109 : decode cX9_sendsWork 109 = .ok (.iload_n 1, 1) := by decide +kernel
theorem dX9_sendsWork_110 : decode cX9_sendsWork 110 = .ok (.bipush 72, 2) := by decide +kernel
theorem dX9_sendsWork_112 : decode cX9_sendsWork 112 = .ok (.iload 4, 2) := by decide +kernel
theorem dX9_sendsWork_114 : decode cX9_sendsWork 114 = .ok (.ineg, 1) := by decide +kernel
theorem dX9_sendsWork_115 : decode cX9_sendsWork 115 = .ok (.invokevirtual 59, 3) := by decide +kernel
theorem dX9_sendsWork_118 : decode cX9_sendsWork 118 = .ok (.aload_n 0, 1) := by decide +kernel
theorem dX9_sendsWork_119 : decode cX9_sendsWork 119 = .ok (.iconst 0, 1) := by decide +kernel
theorem dX9_sendsWork_120 : decode cX9_sendsWork 120 = .ok (.iload_n 1, 1) := by decide +kernel
theorem dX9_sendsWork_121 : decode cX9_sendsWork 121 = .ok (.iload_n 2, 1) := by decide +kernel
theorem dX9_sendsWork_122 : decode cX9_sendsWork 122 = .ok (.invokevirtual 55, 3) := by decide +kernel
theorem dX9_sendsWork_125 : decode cX9_sendsWork 125 = .ok (.istore 5, 2) := by decide +kernel
theorem dX9_sendsWork_127 : decode cX9_sendsWork 127 = .ok (.aload_n 0, 1) := by decide +kernel
theorem dX9_sendsWork_128 : decode cX9_sendsWork 128 = .ok (.getfield 7, 3) := by decide +kernel
theorem dX9_sendsWork_131 : decode cX9_sendsWork 131 = .ok (.iload 5, 2) := by decide +kernel
theorem dX9_sendsWork_133 : decode cX9_sendsWork 133 = .ok (.iconst 4, 1) := by decide +kernel
theorem dX9_sendsWork_134 : decode cX9_sendsWork 134 = .ok (.iadd, 1) := by decide +kernel
theorem dX9_sendsWork_135 : decode cX9_sendsWork 135 = .ok (.iload_n 3, 1) := by decide +kernel
theorem dX9_sendsWork_136 : decode cX9_sendsWork 136 = .ok (.iastore, 1) := by decide +kernel
theorem dX9_sendsWork_137 : decode cX9_sendsWork 137 = .ok (.aload_n 0, 1) := by decide +kernel
theorem dX9_sendsWork_138 : decode cX9_sendsWork 138 = .ok (.getfield 7, 3) := by decide +kernel
theorem dX9_sendsWork_141 : decode cX9_sendsWork 141 = .ok (.iload 5, 2) := by decide +kernel
theorem dX9_sendsWork_143 : decode cX9_sendsWork 143 = .ok (.iconst 5, 1) := by decide +kernel
theorem dX9_sendsWork_144 : decode cX9_sendsWork 144 = .ok (.iadd, 1) := by decide +kernel
theorem dX9_sendsWork_145 : decode cX9_sendsWork 145 = .ok (.iload 4, 2) := by decide +kernel
theorem dX9_sendsWork_147 : decode cX9_sendsWork 147 = .ok (.iastore, 1) := by decide +kernel
theorem dX9_sendsWork_148 : decode cX9_sendsWork 148 = .ok (.aload_n 0, 1) := by decide +kernel
theorem dX9_sendsWork_149 : decode cX9_sendsWork 149 = .ok (.getfield 7, 3) := by decide +kernel
theorem dX9_sendsWork_152 : decode cX9_sendsWork 152 = .ok (.iload 5, 2) := by decide +kernel
theorem dX9_sendsWork_154 : decode cX9_sendsWork 154 = .ok (.bipush 6, 2) := by decide +kernel
theorem dX9_sendsWork_156 : decode cX9_sendsWork 156 = .ok (.iadd, 1) := by decide +kernel
theorem dX9_sendsWork_157 : decode cX9_sendsWork 157 = .ok (.iconst 1, 1) := by decide +kernel
theorem dX9_sendsWork_158 : decode cX9_sendsWork 158 = .ok (.aload_n 0, 1) := by decide +kernel
theorem dX9_sendsWork_159 : decode cX9_sendsWork 159 = .ok (.iload_n 1, 1) := by decide +kernel
theorem dX9_sendsWork_160 : decode cX9_sendsWork 160 = .ok (.bipush 80, 2) := by decide +kernel
theorem dX9_sendsWork_162 : decode cX9_sendsWork 162 = .ok (.invokevirtual 47, 3) := by decide +kernel
theorem dX9_sendsWork_165 : decode cX9_sendsWork 165 = .ok (.iadd, 1) := by decide +kernel
theorem dX9_sendsWork_166 : decode cX9_sendsWork 166 = .ok (.iastore, 1) := by decide +kernel
theorem dX9_sendsWork_167 : decode cX9_sendsWork 167 = .ok (.return_, 1) := by decide +kernel
theorem dX9_isAllRed_0 : decode cX9_isAllRed 0 = .ok (.iconst 0, 1) := by decide +kernel
theorem dX9_isAllRed_1 : decode cX9_isAllRed 1 = .ok (.istore_n 1, 1) := by decide +kernel
theorem dX9_isAllRed_2 : decode cX9_isAllRed 2 = .ok (.iload_n 1, 1) := by decide +kernel
theorem dX9_isAllRed_3 : decode cX9_isAllRed 3 = .ok (.aload_n 0, 1) := by decide +kernel
theorem dX9_isAllRed_4 : decode cX9_isAllRed 4 = .ok (.getfield 7, 3) := by decide +kernel
theorem dX9_isAllRed_7 : decode cX9_isAllRed 7 = .ok (.iconst 0, 1) := by decide +kernel
theorem dX9_isAllRed_8 : decode cX9_isAllRed 8 = .ok (.iaload, 1) := by decide +kernel
theorem dX9_isAllRed_9 : decode cX9_isAllRed 9 = .ok (.if_icmp .ge 21, 3) := by decide +kernel
theorem dX9_isAllRed_12 : decode cX9_isAllRed 12 = .ok (.aload_n 0, 1) := by decide +kernel
theorem dX9_isAllRed_13 : decode cX9_isAllRed 13 = .ok (.iload_n 1, 1) := by decide +kernel
theorem dX9_isAllRed_14 : decode cX9_isAllRed 14 = .ok (.bipush 96, 2) := by decide +kernel
theorem dX9_isAllRed_16 : decode cX9_isAllRed 16 = .ok (.invokevirtual 47, 3) := by decide +kernel
theorem dX9_isAllRed_19 : decode cX9_isAllRed 19 = .ok (.ifCond .ne 5, 3) := by decide +kernel
theorem dX9_isAllRed_22 : decode cX9_isAllRed 22 = .ok (.iconst 0, 1) := by decide +kernel
theorem dX9_isAllRed_23 : decode cX9_isAllRed 23 = .ok (.ireturn, 1) := by decide +kernel
theorem dX9_isAllRed_24 : decode cX9_isAllRed 24 = .ok (.iinc 1 1, 3) := by decide +kernel
theorem dX9_isAllRed_27 : decode cX9_isAllRed 27 = .ok (.goto (-25), 3) := by decide +kernel
theorem dX9_isAllRed_30 : decode cX9_isAllRed 30 = .ok (.iconst 1, 1) := by decide +kernel
theorem dX9_isAllRed_31 : decode cX9_isAllRed 31 = .ok (.ireturn, 1) := by decide +kernel
theorem dX9_reddens_0 : decode cX9_reddens 0 = .ok (.aload_n 0, 1) := by decide +kernel
theorem dX9_reddens_1 : decode cX9_reddens 1 = .ok (.iload_n 1, 1) := by decide +kernel
theorem dX9_reddens_2 : decode cX9_reddens 2 = .ok (.bipush 96, 2) := by decide +kernel
theorem dX9_reddens_4 : decode cX9_reddens 4 = .ok (.iconst 1, 1) := by decide +kernel
theorem dX9_reddens_5 : decode cX9_reddens 5 = .ok (.invokevirtual 63, 3) := by decide +kernel
theorem dX9_reddens_8 : decode cX9_reddens 8 = .ok (.aload_n 0, 1) := by decide +kernel
theorem dX9_reddens_9 : decode cX9_reddens 9 = .ok (.iload_n 1, 1) := by decide +kernel
theorem dX9_reddens_10 : decode cX9_reddens 10 = .ok (.bipush 104, 2) := by decide +kernel
theorem dX9_reddens_12 : decode cX9_reddens 12 = .ok (.aload_n 0, 1) := by decide +kernel
theorem dX9_reddens_13 : decode cX9_reddens 13 = .ok (.iload_n 1, 1) := by decide +kernel
theorem dX9_reddens_14 : decode cX9_reddens 14 = .ok (.iconst 0, 1) := by decide +kernel
theorem dX9_reddens_15 : decode cX9_reddens 15 = .ok (.invokevirtual 47, 3) := by decide +kernel
theorem dX9_reddens_18 : decode cX9_reddens 18 = .ok (.invokevirtual 63, 3) := by decide +kernel
theorem dX9_reddens_21 : decode cX9_reddens 21 = .ok (.aload_n 0, 1) := by decide +kernel
theorem dX9_reddens_22 : decode cX9_reddens 22 = .ok (.iload_n 1, 1) := by decide +kernel
theorem dX9_reddens_23 : decode cX9_reddens 23 = .ok (.bipush 112, 2) := by decide +kernel
theorem dX9_reddens_25 : decode cX9_reddens 25 = .ok (.aload_n 0, 1) := by decide +kernel
theorem dX9_reddens_26 : decode cX9_reddens 26 = .ok (.iload_n 1, 1) := by decide +kernel
theorem dX9_reddens_27 : decode cX9_reddens 27 = .ok (.bipush 16, 2) := by decide +kernel
theorem dX9_reddens_29 : decode cX9_reddens 29 = .ok (.invokevirtual 47, 3) := by decide +kernel
theorem dX9_reddens_32 : decode cX9_reddens 32 = .ok (.invokevirtual 63, 3) := by decide +kernel
theorem dX9_reddens_35 : decode cX9_reddens 35 = .ok (.aload_n 0, 1) := by decide +kernel
theorem dX9_reddens_36 : decode cX9_reddens 36 = .ok (.iload_n 1, 1) := by decide +kernel
theorem dX9_reddens_37 : decode cX9_reddens 37 = .ok (.bipush 120, 2) := by decide +kernel
theorem dX9_reddens_39 : decode cX9_reddens 39 = .ok (.aload_n 0, 1) := by decide +kernel
theorem dX9_reddens_40 : decode cX9_reddens 40 = .ok (.iload_n 1, 1) := by decide +kernel
theorem dX9_reddens_41 : decode cX9_reddens 41 = .ok (.bipush 24, 2) := by decide +kernel
theorem dX9_reddens_43 : decode cX9_reddens 43 = .ok (.invokevirtual 47, 3) := by decide +kernel
theorem dX9_reddens_46 : decode cX9_reddens 46 = .ok (.invokevirtual 63, 3) := by decide +kernel
theorem dX9_reddens_49 : decode cX9_reddens 49 = .ok (.aload_n 0, 1) := by decide +kernel
theorem dX9_reddens_50 : decode cX9_reddens 50 = .ok (.getfield 7, 3) := by decide +kernel
theorem dX9_reddens_53 : decode cX9_reddens 53 = .ok (.bipush 34, 2) := by decide +kernel
theorem dX9_reddens_55 : decode cX9_reddens 55 = .ok (.iaload, 1) := by decide +kernel
theorem dX9_reddens_56 : decode cX9_reddens 56 = .ok (.iconst (-1), 1) := by decide +kernel
theorem dX9_reddens_57 : decode cX9_reddens 57 = .ok (.if_icmp .ne 23, 3) := by decide +kernel
theorem dX9_reddens_60 : decode cX9_reddens 60 = .ok (.aload_n 0, 1) := by decide +kernel
theorem dX9_reddens_61 : decode cX9_reddens 61 = .ok (.invokevirtual 66, 3) := by decide +kernel
theorem dX9_reddens_64 : decode cX9_reddens 64 = .ok (.ifCond .eq 16, 3) := by decide +kernel
theorem dX9_reddens_67 : decode cX9_reddens 67 = .ok (.aload_n 0, 1) := by decide +kernel
theorem dX9_reddens_68 : decode cX9_reddens 68 = .ok (.getfield 7, 3) := by decide +kernel
theorem dX9_reddens_71 : decode cX9_reddens 71 = .ok (.bipush 34, 2) := by decide +kernel
theorem dX9_reddens_73 : decode cX9_reddens 73 = .ok (.aload_n 0, 1) := by decide +kernel
theorem dX9_reddens_74 : decode cX9_reddens 74 = .ok (.getfield 7, 3) := by decide +kernel
theorem dX9_reddens_77 : decode cX9_reddens 77 = .ok (.iconst 4, 1) := by decide +kernel
theorem dX9_reddens_78 : decode cX9_reddens 78 = .ok (.iaload, 1) := by decide +kernel
theorem dX9_reddens_79 : decode cX9_reddens 79 = .ok (.iastore, 1) := by decide +kernel
theorem dX9_reddens_80 : decode cX9_reddens 80 = .ok (.return_, 1) := by decide +kernel
theorem dX9_whitens_0 : decode cX9_whitens 0 = .ok (.iconst 0, 1) := by decide +kernel
theorem dX9_whitens_1 : decode cX9_whitens 1 = .ok (.istore_n 1, 1) := by decide +kernel
theorem dX9_whitens_2 : decode cX9_whitens 2 = .ok (.iload_n 1, 1) := by decide +kernel
theorem dX9_whitens_3 : decode cX9_whitens 3 = .ok (.bipush 8, 2) := by decide +kernel
theorem dX9_whitens_5 : decode cX9_whitens 5 = .ok (.if_icmp .ge 41, 3) := by decide +kernel
theorem dX9_whitens_8 : decode cX9_whitens 8 = .ok (.aload_n 0, 1) := by decide +kernel
theorem dX9_whitens_9 : decode cX9_whitens 9 = .ok (.iload_n 1, 1) := by decide +kernel
theorem dX9_whitens_10 : decode cX9_whitens 10 = .ok (.bipush 96, 2) := by decide +kernel
theorem dX9_whitens_12 : decode cX9_whitens 12 = .ok (.iconst 0, 1) := by decide +kernel
theorem dX9_whitens_13 : decode cX9_whitens 13 = .ok (.invokevirtual 63, 3) := by decide +kernel
theorem dX9_whitens_16 : decode cX9_whitens 16 = .ok (.aload_n 0, 1) := by decide +kernel
theorem dX9_whitens_17 : decode cX9_whitens 17 = .ok (.iload_n 1, 1) := by decide +kernel
theorem dX9_whitens_18 : decode cX9_whitens 18 = .ok (.bipush 104, 2) := by decide +kernel
theorem dX9_whitens_20 : decode cX9_whitens 20 = .ok (.iconst 0, 1) := by decide +kernel
theorem dX9_whitens_21 : decode cX9_whitens 21 = .ok (.invokevirtual 63, 3) := by decide +kernel
theorem dX9_whitens_24 : decode cX9_whitens 24 = .ok (.aload_n 0, 1) := by decide +kernel
theorem dX9_whitens_25 : decode cX9_whitens 25 = .ok (.iload_n 1, 1) := by decide +kernel
theorem dX9_whitens_26 : decode cX9_whitens 26 = .ok (.bipush 112, 2) := by decide +kernel
theorem dX9_whitens_28 : decode cX9_whitens 28 = .ok (.iconst 0, 1) := by decide +kernel
theorem dX9_whitens_29 : decode cX9_whitens 29 = .ok (.invokevirtual 63, 3) := by decide +kernel
theorem dX9_whitens_32 : decode cX9_whitens 32 = .ok (.aload_n 0, 1) := by decide +kernel
theorem dX9_whitens_33 : decode cX9_whitens 33 = .ok (.iload_n 1, 1) := by decide +kernel
theorem dX9_whitens_34 : decode cX9_whitens 34 = .ok (.bipush 120, 2) := by decide +kernel
theorem dX9_whitens_36 : decode cX9_whitens 36 = .ok (.iconst 0, 1) := by decide +kernel
theorem dX9_whitens_37 : decode cX9_whitens 37 = .ok (.invokevirtual 63, 3) := by decide +kernel
theorem dX9_whitens_40 : decode cX9_whitens 40 = .ok (.iinc 1 1, 3) := by decide +kernel
theorem dX9_whitens_43 : decode cX9_whitens 43 = .ok (.goto (-41), 3) := by decide +kernel
theorem dX9_whitens_46 : decode cX9_whitens 46 = .ok (.iconst 0, 1) := by decide +kernel
theorem dX9_whitens_47 : decode cX9_whitens 47 = .ok (.istore_n 1, 1) := by decide +kernel
theorem dX9_whitens_48 : decode cX9_whitens 48 = .ok (.iload_n 1, 1) := by decide +kernel
theorem dX9_whitens_49 : decode cX9_whitens 49 = .ok (.aload_n 0, 1) := by decide +kernel
theorem dX9_whitens_50 : decode cX9_whitens 50 = .ok (.getfield 7, 3) := by decide +kernel
theorem dX9_whitens_53 : decode cX9_whitens 53 = .ok (.iconst 2, 1) := by decide +kernel
theorem dX9_whitens_54 : decode cX9_whitens 54 = .ok (.iaload, 1) := by decide +kernel
theorem dX9_whitens_55 : decode cX9_whitens 55 = .ok (.if_icmp .ge 26, 3) := by decide +kernel
theorem dX9_whitens_58 : decode cX9_whitens 58 = .ok (.aload_n 0, 1) := by decide +kernel
theorem dX9_whitens_59 : decode cX9_whitens 59 = .ok (.getfield 7, 3) := by decide +kernel
theorem dX9_whitens_62 : decode cX9_whitens 62 = .ok (.sipush 664, 3) := by decide +kernel
theorem dX9_whitens_65 : decode cX9_whitens 65 = .ok (.bipush 9, 2) := by decide +kernel
theorem dX9_whitens_67 : decode cX9_whitens 67 = .ok (.iload_n 1, 1) := by decide +kernel
theorem dX9_whitens_68 : decode cX9_whitens 68 = .ok (.imul, 1) := by decide +kernel
theorem dX9_whitens_69 : decode cX9_whitens 69 = .ok (.iadd, 1) := by decide +kernel
theorem dX9_whitens_70 : decode cX9_whitens 70 = .ok (.bipush 7, 2) := by decide +kernel
theorem dX9_whitens_72 : decode cX9_whitens 72 = .ok (.iadd, 1) := by decide +kernel
theorem dX9_whitens_73 : decode cX9_whitens 73 = .ok (.iconst 0, 1) := by decide +kernel
theorem dX9_whitens_74 : decode cX9_whitens 74 = .ok (.iastore, 1) := by decide +kernel
theorem dX9_whitens_75 : decode cX9_whitens 75 = .ok (.iinc 1 1, 3) := by decide +kernel
theorem dX9_whitens_78 : decode cX9_whitens 78 = .ok (.goto (-30), 3) := by decide +kernel
theorem dX9_whitens_81 : decode cX9_whitens 81 = .ok (.aload_n 0, 1) := by decide +kernel
theorem dX9_whitens_82 : decode cX9_whitens 82 = .ok (.getfield 7, 3) := by decide +kernel
theorem dX9_whitens_85 : decode cX9_whitens 85 = .ok (.bipush 34, 2) := by decide +kernel
theorem dX9_whitens_87 : decode cX9_whitens 87 = .ok (.iconst (-1), 1) := by decide +kernel
theorem dX9_whitens_88 : decode cX9_whitens 88 = .ok (.iastore, 1) := by decide +kernel
theorem dX9_whitens_89 : decode cX9_whitens 89 = .ok (.return_, 1) := by decide +kernel
theorem dX9_begins_0 : decode cX9_begins 0 = .ok (.aload_n 0, 1) := by decide +kernel
theorem dX9_begins_1 : decode cX9_begins 1 = .ok (.invokevirtual 70, 3) := by decide +kernel
theorem dX9_begins_4 : decode cX9_begins 4 = .ok (.aload_n 0, 1) := by decide +kernel
theorem dX9_begins_5 : decode cX9_begins 5 = .ok (.getfield 7, 3) := by decide +kernel
theorem dX9_begins_8 : decode cX9_begins 8 = .ok (.bipush 35, 2) := by decide +kernel
theorem dX9_begins_10 : decode cX9_begins 10 = .ok (.iconst 0, 1) := by decide +kernel
theorem dX9_begins_11 : decode cX9_begins 11 = .ok (.iastore, 1) := by decide +kernel
theorem dX9_begins_12 : decode cX9_begins 12 = .ok (.aload_n 0, 1) := by decide +kernel
theorem dX9_begins_13 : decode cX9_begins 13 = .ok (.getfield 7, 3) := by decide +kernel
theorem dX9_begins_16 : decode cX9_begins 16 = .ok (.bipush 36, 2) := by decide +kernel
theorem dX9_begins_18 : decode cX9_begins 18 = .ok (.iconst 0, 1) := by decide +kernel
theorem dX9_begins_19 : decode cX9_begins 19 = .ok (.iastore, 1) := by decide +kernel
theorem dX9_begins_20 : decode cX9_begins 20 = .ok (.aload_n 0, 1) := by decide +kernel
theorem dX9_begins_21 : decode cX9_begins 21 = .ok (.getfield 7, 3) := by decide +kernel
theorem dX9_begins_24 : decode cX9_begins 24 = .ok (.bipush 33, 2) := by decide +kernel
theorem dX9_begins_26 : decode cX9_begins 26 = .ok (.dup2, 1) := by decide +kernel
theorem dX9_begins_27 : decode cX9_begins 27 = .ok (.iaload, 1) := by decide +kernel
theorem dX9_begins_28 : decode cX9_begins 28 = .ok (.iconst 1, 1) := by decide +kernel
theorem dX9_begins_29 : decode cX9_begins 29 = .ok (.iadd, 1) := by decide +kernel
theorem dX9_begins_30 : decode cX9_begins 30 = .ok (.iastore, 1) := by decide +kernel
theorem dX9_begins_31 : decode cX9_begins 31 = .ok (.aload_n 0, 1) := by decide +kernel
theorem dX9_begins_32 : decode cX9_begins 32 = .ok (.iload_n 1, 1) := by decide +kernel
theorem dX9_begins_33 : decode cX9_begins 33 = .ok (.invokevirtual 73, 3) := by decide +kernel
theorem dX9_begins_36 : decode cX9_begins 36 = .ok (.return_, 1) := by decide +kernel
theorem dX9_comesWork_0 : decode cX9_comesWork 0 = .ok (.aload_n 0, 1) := by decide +kernel
theorem dX9_comesWork_1 : decode cX9_comesWork 1 = .ok (.getfield 7, 3) := by decide +kernel
theorem dX9_comesWork_4 : decode cX9_comesWork 4 = .ok (.iload_n 1, 1) := by decide +kernel
theorem dX9_comesWork_5 : decode cX9_comesWork 5 = .ok (.bipush 7, 2) := by decide +kernel
theorem dX9_comesWork_7 : decode cX9_comesWork 7 = .ok (.iadd, 1) := by decide +kernel
theorem dX9_comesWork_8 : decode cX9_comesWork 8 = .ok (.iaload, 1) := by decide +kernel
theorem dX9_comesWork_9 : decode cX9_comesWork 9 = .ok (.ifCond .ne 43, 3) := by decide +kernel
theorem dX9_comesWork_12 : decode cX9_comesWork 12 = .ok (.aload_n 0, 1) := by decide +kernel
theorem dX9_comesWork_13 : decode cX9_comesWork 13 = .ok (.iload_n 2, 1) := by decide +kernel
theorem dX9_comesWork_14 : decode cX9_comesWork 14 = .ok (.bipush 96, 2) := by decide +kernel
theorem dX9_comesWork_16 : decode cX9_comesWork 16 = .ok (.invokevirtual 47, 3) := by decide +kernel
theorem dX9_comesWork_19 : decode cX9_comesWork 19 = .ok (.iconst 1, 1) := by decide +kernel
theorem dX9_comesWork_20 : decode cX9_comesWork 20 = .ok (.if_icmp .ne 32, 3) := by decide +kernel
theorem dX9_comesWork_23 : decode cX9_comesWork 23 = .ok (.aload_n 0, 1) := by decide +kernel
theorem dX9_comesWork_24 : decode cX9_comesWork 24 = .ok (.getfield 7, 3) := by decide +kernel
theorem dX9_comesWork_27 : decode cX9_comesWork 27 = .ok (.bipush 35, 2) := by decide +kernel
theorem dX9_comesWork_29 : decode cX9_comesWork 29 = .ok (.dup2, 1) := by decide +kernel
theorem dX9_comesWork_30 : decode cX9_comesWork 30 = .ok (.iaload, 1) := by decide +kernel
theorem dX9_comesWork_31 : decode cX9_comesWork 31 = .ok (.iconst 1, 1) := by decide +kernel
theorem dX9_comesWork_32 : decode cX9_comesWork 32 = .ok (.iadd, 1) := by decide +kernel
theorem dX9_comesWork_33 : decode cX9_comesWork 33 = .ok (.iastore, 1) := by decide +kernel
theorem dX9_comesWork_34 : decode cX9_comesWork 34 = .ok (.aload_n 0, 1) := by decide +kernel
theorem dX9_comesWork_35 : decode cX9_comesWork 35 = .ok (.getfield 7, 3) := by decide +kernel
theorem dX9_comesWork_38 : decode cX9_comesWork 38 = .ok (.bipush 36, 2) := by decide +kernel
theorem dX9_comesWork_40 : decode cX9_comesWork 40 = .ok (.dup2, 1) := by decide +kernel
theorem dX9_comesWork_41 : decode cX9_comesWork 41 = .ok (.iaload, 1) := by decide +kernel
theorem dX9_comesWork_42 : decode cX9_comesWork 42 = .ok (.aload_n 0, 1) := by decide +kernel
theorem dX9_comesWork_43 : decode cX9_comesWork 43 = .ok (.getfield 7, 3) := by decide +kernel
theorem dX9_comesWork_46 : decode cX9_comesWork 46 = .ok (.iload_n 1, 1) := by decide +kernel
theorem dX9_comesWork_47 : decode cX9_comesWork 47 = .ok (.iconst 4, 1) := by decide +kernel
theorem dX9_comesWork_48 : decode cX9_comesWork 48 = .ok (.iadd, 1) := by decide +kernel
theorem dX9_comesWork_49 : decode cX9_comesWork 49 = .ok (.iaload, 1) := by decide +kernel
theorem dX9_comesWork_50 : decode cX9_comesWork 50 = .ok (.iadd, 1) := by decide +kernel
theorem dX9_comesWork_51 : decode cX9_comesWork 51 = .ok (.iastore, 1) := by decide +kernel
theorem dX9_comesWork_52 : decode cX9_comesWork 52 = .ok (.aload_n 0, 1) := by decide +kernel
theorem dX9_comesWork_53 : decode cX9_comesWork 53 = .ok (.iload_n 2, 1) := by decide +kernel
theorem dX9_comesWork_54 : decode cX9_comesWork 54 = .ok (.bipush 24, 2) := by decide +kernel
theorem dX9_comesWork_56 : decode cX9_comesWork 56 = .ok (.iconst 1, 1) := by decide +kernel
theorem dX9_comesWork_57 : decode cX9_comesWork 57 = .ok (.invokevirtual 59, 3) := by decide +kernel
theorem dX9_comesWork_60 : decode cX9_comesWork 60 = .ok (.aload_n 0, 1) := by decide +kernel
theorem dX9_comesWork_61 : decode cX9_comesWork 61 = .ok (.iload_n 2, 1) := by decide +kernel
theorem dX9_comesWork_62 : decode cX9_comesWork 62 = .ok (.invokevirtual 76, 3) := by decide +kernel
theorem dX9_comesWork_65 : decode cX9_comesWork 65 = .ok (.ifCond .eq 55, 3) := by decide +kernel
theorem dX9_comesWork_68 : decode cX9_comesWork 68 = .ok (.aload_n 0, 1) := by decide +kernel
theorem dX9_comesWork_69 : decode cX9_comesWork 69 = .ok (.iconst 1, 1) := by decide +kernel
theorem dX9_comesWork_70 : decode cX9_comesWork 70 = .ok (.iload_n 2, 1) := by decide +kernel
theorem dX9_comesWork_71 : decode cX9_comesWork 71 = .ok (.invokevirtual 51, 3) := by decide +kernel
theorem dX9_comesWork_74 : decode cX9_comesWork 74 = .ok (.aload_n 0, 1) := by decide +kernel
theorem dX9_comesWork_75 : decode cX9_comesWork 75 = .ok (.iload_n 2, 1) := by decide +kernel
theorem dX9_comesWork_76 : decode cX9_comesWork 76 = .ok (.bipush 80, 2) := by decide +kernel
theorem dX9_comesWork_78 : decode cX9_comesWork 78 = .ok (.aload_n 0, 1) := by decide +kernel
theorem dX9_comesWork_79 : decode cX9_comesWork 79 = .ok (.getfield 7, 3) := by decide +kernel
theorem dX9_comesWork_82 : decode cX9_comesWork 82 = .ok (.iload_n 1, 1) := by decide +kernel
theorem dX9_comesWork_83 : decode cX9_comesWork 83 = .ok (.bipush 6, 2) := by decide +kernel
theorem dX9_comesWork_85 : decode cX9_comesWork 85 = .ok (.iadd, 1) := by decide +kernel
theorem dX9_comesWork_86 : decode cX9_comesWork 86 = .ok (.iaload, 1) := by decide +kernel
theorem dX9_comesWork_87 : decode cX9_comesWork 87 = .ok (.invokevirtual 63, 3) := by decide +kernel
theorem dX9_comesWork_90 : decode cX9_comesWork 90 = .ok (.aload_n 0, 1) := by decide +kernel
theorem dX9_comesWork_91 : decode cX9_comesWork 91 = .ok (.iload_n 2, 1) := by decide +kernel
theorem dX9_comesWork_92 : decode cX9_comesWork 92 = .ok (.sipush 128, 3) := by decide +kernel
theorem dX9_comesWork_95 : decode cX9_comesWork 95 = .ok (.aload_n 0, 1) := by decide +kernel
theorem dX9_comesWork_96 : decode cX9_comesWork 96 = .ok (.getfield 7, 3) := by decide +kernel
theorem dX9_comesWork_99 : decode cX9_comesWork 99 = .ok (.iload_n 1, 1) := by decide +kernel
theorem dX9_comesWork_100 : decode cX9_comesWork 100 = .ok (.iconst 1, 1) := by decide +kernel
theorem dX9_comesWork_101 : decode cX9_comesWork 101 = .ok (.iadd, 1) := by decide +kernel
theorem dX9_comesWork_102 : decode cX9_comesWork 102 = .ok (.iaload, 1) := by decide +kernel
theorem dX9_comesWork_103 : decode cX9_comesWork 103 = .ok (.invokevirtual 63, 3) := by decide +kernel
theorem dX9_comesWork_106 : decode cX9_comesWork 106 = .ok (.aload_n 0, 1) := by decide +kernel
theorem dX9_comesWork_107 : decode cX9_comesWork 107 = .ok (.iload_n 2, 1) := by decide +kernel
theorem dX9_comesWork_108 : decode cX9_comesWork 108 = .ok (.sipush 136, 3) := by decide +kernel
theorem dX9_comesWork_111 : decode cX9_comesWork 111 = .ok (.aload_n 0, 1) := by decide +kernel
theorem dX9_comesWork_112 : decode cX9_comesWork 112 = .ok (.getfield 7, 3) := by decide +kernel
theorem dX9_comesWork_115 : decode cX9_comesWork 115 = .ok (.iconst 4, 1) := by decide +kernel
theorem dX9_comesWork_116 : decode cX9_comesWork 116 = .ok (.iaload, 1) := by decide +kernel
theorem dX9_comesWork_117 : decode cX9_comesWork 117 = .ok (.invokevirtual 63, 3) := by decide +kernel
theorem dX9_comesWork_120 : decode cX9_comesWork 120 = .ok (.aload_n 0, 1) := by decide +kernel
theorem dX9_comesWork_121 : decode cX9_comesWork 121 = .ok (.iload_n 2, 1) := by decide +kernel
theorem dX9_comesWork_122 : decode cX9_comesWork 122 = .ok (.iconst 0, 1) := by decide +kernel
theorem dX9_comesWork_123 : decode cX9_comesWork 123 = .ok (.aload_n 0, 1) := by decide +kernel
theorem dX9_comesWork_124 : decode cX9_comesWork 124 = .ok (.getfield 7, 3) := by decide +kernel
theorem dX9_comesWork_127 : decode cX9_comesWork 127 = .ok (.iload_n 1, 1) := by decide +kernel
theorem dX9_comesWork_128 : decode cX9_comesWork 128 = .ok (.iconst 4, 1) := by decide +kernel
theorem dX9_comesWork_129 : decode cX9_comesWork 129 = .ok (.iadd, 1) := by decide +kernel
theorem dX9_comesWork_130 : decode cX9_comesWork 130 = .ok (.iaload, 1) := by decide +kernel
theorem dX9_comesWork_131 : decode cX9_comesWork 131 = .ok (.invokevirtual 59, 3) := by decide +kernel
theorem dX9_comesWork_134 : decode cX9_comesWork 134 = .ok (.aload_n 0, 1) := by decide +kernel
theorem dX9_comesWork_135 : decode cX9_comesWork 135 = .ok (.iload_n 2, 1) := by decide +kernel
theorem dX9_comesWork_136 : decode cX9_comesWork 136 = .ok (.bipush 56, 2) := by decide +kernel
theorem dX9_comesWork_138 : decode cX9_comesWork 138 = .ok (.iconst (-1), 1) := by decide +kernel
theorem dX9_comesWork_139 : decode cX9_comesWork 139 = .ok (.invokevirtual 59, 3) := by decide +kernel
theorem dX9_comesWork_142 : decode cX9_comesWork 142 = .ok (.aload_n 0, 1) := by decide +kernel
theorem dX9_comesWork_143 : decode cX9_comesWork 143 = .ok (.iload_n 2, 1) := by decide +kernel
theorem dX9_comesWork_144 : decode cX9_comesWork 144 = .ok (.bipush 64, 2) := by decide +kernel
theorem dX9_comesWork_146 : decode cX9_comesWork 146 = .ok (.iconst 1, 1) := by decide +kernel
theorem dX9_comesWork_147 : decode cX9_comesWork 147 = .ok (.invokevirtual 63, 3) := by decide +kernel
theorem dX9_comesWork_150 : decode cX9_comesWork 150 = .ok (.aload_n 0, 1) := by decide +kernel
theorem dX9_comesWork_151 : decode cX9_comesWork 151 = .ok (.iload_n 2, 1) := by decide +kernel
theorem dX9_comesWork_152 : decode cX9_comesWork 152 = .ok (.bipush 72, 2) := by decide +kernel
theorem dX9_comesWork_154 : decode cX9_comesWork 154 = .ok (.aload_n 0, 1) := by decide +kernel
theorem dX9_comesWork_155 : decode cX9_comesWork 155 = .ok (.getfield 7, 3) := by decide +kernel
theorem dX9_comesWork_158 : decode cX9_comesWork 158 = .ok (.iload_n 1, 1) := by decide +kernel
theorem dX9_comesWork_159 : decode cX9_comesWork 159 = .ok (.iconst 5, 1) := by decide +kernel
theorem dX9_comesWork_160 : decode cX9_comesWork 160 = .ok (.iadd, 1) := by decide +kernel
theorem dX9_comesWork_161 : decode cX9_comesWork 161 = .ok (.iaload, 1) := by decide +kernel
theorem dX9_comesWork_162 : decode cX9_comesWork 162 = .ok (.invokevirtual 59, 3) := by decide +kernel
theorem dX9_comesWork_165 : decode cX9_comesWork 165 = .ok (.aload_n 0, 1) := by decide +kernel
theorem dX9_comesWork_166 : decode cX9_comesWork 166 = .ok (.iload_n 2, 1) := by decide +kernel
theorem dX9_comesWork_167 : decode cX9_comesWork 167 = .ok (.bipush 40, 2) := by decide +kernel
theorem dX9_comesWork_169 : decode cX9_comesWork 169 = .ok (.invokevirtual 47, 3) := by decide +kernel
theorem dX9_comesWork_172 : decode cX9_comesWork 172 = .ok (.iconst 1, 1) := by decide +kernel
theorem dX9_comesWork_173 : decode cX9_comesWork 173 = .ok (.if_icmp .ne 21, 3) := by decide +kernel
theorem dX9_comesWork_176 : decode cX9_comesWork 176 = .ok (.aload_n 0, 1) := by decide +kernel
theorem dX9_comesWork_177 : decode cX9_comesWork 177 = .ok (.iconst 0, 1) := by decide +kernel
theorem dX9_comesWork_178 : decode cX9_comesWork 178 = .ok (.iconst 1, 1) := by decide +kernel
theorem dX9_comesWork_179 : decode cX9_comesWork 179 = .ok (.iload_n 2, 1) := by decide +kernel
theorem dX9_comesWork_180 : decode cX9_comesWork 180 = .ok (.aload_n 0, 1) := by decide +kernel
theorem dX9_comesWork_181 : decode cX9_comesWork 181 = .ok (.getfield 7, 3) := by decide +kernel
theorem dX9_comesWork_184 : decode cX9_comesWork 184 = .ok (.iload_n 1, 1) := by decide +kernel
theorem dX9_comesWork_185 : decode cX9_comesWork 185 = .ok (.iconst 1, 1) := by decide +kernel
theorem dX9_comesWork_186 : decode cX9_comesWork 186 = .ok (.iadd, 1) := by decide +kernel
theorem dX9_comesWork_187 : decode cX9_comesWork 187 = .ok (.iaload, 1) := by decide +kernel
theorem dX9_comesWork_188 : decode cX9_comesWork 188 = .ok (.invokevirtual 80, 3) := by decide +kernel
theorem dX9_comesWork_191 : decode cX9_comesWork 191 = .ok (.goto 26, 3) := by decide +kernel
theorem dX9_comesWork_194 : decode cX9_comesWork 194 = .ok (.aload_n 0, 1) := by decide +kernel
theorem dX9_comesWork_195 : decode cX9_comesWork 195 = .ok (.iload_n 2, 1) := by decide +kernel
theorem dX9_comesWork_196 : decode cX9_comesWork 196 = .ok (.bipush 40, 2) := by decide +kernel
theorem dX9_comesWork_198 : decode cX9_comesWork 198 = .ok (.iconst 1, 1) := by decide +kernel
theorem dX9_comesWork_199 : decode cX9_comesWork 199 = .ok (.invokevirtual 63, 3) := by decide +kernel
theorem dX9_comesWork_202 : decode cX9_comesWork 202 = .ok (.aload_n 0, 1) := by decide +kernel
theorem dX9_comesWork_203 : decode cX9_comesWork 203 = .ok (.iload_n 2, 1) := by decide +kernel
theorem dX9_comesWork_204 : decode cX9_comesWork 204 = .ok (.bipush 32, 2) := by decide +kernel
theorem dX9_comesWork_206 : decode cX9_comesWork 206 = .ok (.aload_n 0, 1) := by decide +kernel
theorem dX9_comesWork_207 : decode cX9_comesWork 207 = .ok (.getfield 7, 3) := by decide +kernel
theorem dX9_comesWork_210 : decode cX9_comesWork 210 = .ok (.iload_n 1, 1) := by decide +kernel
theorem dX9_comesWork_211 : decode cX9_comesWork 211 = .ok (.iconst 1, 1) := by decide +kernel
theorem dX9_comesWork_212 : decode cX9_comesWork 212 = .ok (.iadd, 1) := by decide +kernel
theorem dX9_comesWork_213 : decode cX9_comesWork 213 = .ok (.iaload, 1) := by decide +kernel
theorem dX9_comesWork_214 : decode cX9_comesWork 214 = .ok (.invokevirtual 63, 3) := by decide +kernel
theorem dX9_comesWork_217 : decode cX9_comesWork 217 = .ok (.return_, 1) := by decide +kernel
theorem dX9_comes_0 : decode cX9_comes 0 = .ok (.aload_n 0, 1) := by decide +kernel
theorem dX9_comes_1 : decode cX9_comes 1 = .ok (.getfield 7, 3) := by decide +kernel
theorem dX9_comes_4 : decode cX9_comes 4 = .ok (.iload_n 1, 1) := by decide +kernel
theorem dX9_comes_5 : decode cX9_comes 5 = .ok (.iconst 2, 1) := by decide +kernel
theorem dX9_comes_6 : decode cX9_comes 6 = .ok (.iadd, 1) := by decide +kernel
theorem dX9_comes_7 : decode cX9_comes 7 = .ok (.iaload, 1) := by decide +kernel
theorem dX9_comes_8 : decode cX9_comes 8 = .ok (.istore_n 2, 1) := by decide +kernel
theorem dX9_comes_9 : decode cX9_comes 9 = .ok (.aload_n 0, 1) := by decide +kernel
theorem dX9_comes_10 : decode cX9_comes 10 = .ok (.getfield 7, 3) := by decide +kernel
theorem dX9_comes_13 : decode cX9_comes 13 = .ok (.iload_n 1, 1) := by decide +kernel
theorem dX9_comes_14 : decode cX9_comes 14 = .ok (.bipush 7, 2) := by decide +kernel
theorem dX9_comes_16 : decode cX9_comes 16 = .ok (.iadd, 1) := by decide +kernel
theorem dX9_comes_17 : decode cX9_comes 17 = .ok (.iaload, 1) := by decide +kernel
theorem dX9_comes_18 : decode cX9_comes 18 = .ok (.iconst 1, 1) := by decide +kernel
theorem dX9_comes_19 : decode cX9_comes 19 = .ok (.if_icmp .ne 18, 3) := by decide +kernel
theorem dX9_comes_22 : decode cX9_comes 22 = .ok (.aload_n 0, 1) := by decide +kernel
theorem dX9_comes_23 : decode cX9_comes 23 = .ok (.iload_n 2, 1) := by decide +kernel
theorem dX9_comes_24 : decode cX9_comes 24 = .ok (.bipush 96, 2) := by decide +kernel
theorem dX9_comes_26 : decode cX9_comes 26 = .ok (.invokevirtual 47, 3) := by decide +kernel
theorem dX9_comes_29 : decode cX9_comes 29 = .ok (.ifCond .ne 8, 3) := by decide +kernel
theorem dX9_comes_32 : decode cX9_comes 32 = .ok (.aload_n 0, 1) := by decide +kernel
theorem dX9_comes_33 : decode cX9_comes 33 = .ok (.iload_n 2, 1) := by decide +kernel
theorem dX9_comes_34 : decode cX9_comes 34 = .ok (.invokevirtual 73, 3) := by decide +kernel
theorem dX9_comes_37 : decode cX9_comes 37 = .ok (.aload_n 0, 1) := by decide +kernel
theorem dX9_comes_38 : decode cX9_comes 38 = .ok (.getfield 7, 3) := by decide +kernel
theorem dX9_comes_41 : decode cX9_comes 41 = .ok (.iload_n 1, 1) := by decide +kernel
theorem dX9_comes_42 : decode cX9_comes 42 = .ok (.iconst 0, 1) := by decide +kernel
theorem dX9_comes_43 : decode cX9_comes 43 = .ok (.iadd, 1) := by decide +kernel
theorem dX9_comes_44 : decode cX9_comes 44 = .ok (.iaload, 1) := by decide +kernel
theorem dX9_comes_45 : decode cX9_comes 45 = .ok (.tableswitch 83 0 3 #[31, 40, 51, 62], 31) := by decide +kernel
theorem dX9_comes_76 : decode cX9_comes 76 = .ok (.aload_n 0, 1) := by decide +kernel
theorem dX9_comes_77 : decode cX9_comes 77 = .ok (.iload_n 1, 1) := by decide +kernel
theorem dX9_comes_78 : decode cX9_comes 78 = .ok (.iload_n 2, 1) := by decide +kernel
theorem dX9_comes_79 : decode cX9_comes 79 = .ok (.invokevirtual 84, 3) := by decide +kernel
theorem dX9_comes_82 : decode cX9_comes 82 = .ok (.goto 54, 3) := by decide +kernel
theorem dX9_comes_85 : decode cX9_comes 85 = .ok (.aload_n 0, 1) := by decide +kernel
theorem dX9_comes_86 : decode cX9_comes 86 = .ok (.iload_n 2, 1) := by decide +kernel
theorem dX9_comes_87 : decode cX9_comes 87 = .ok (.bipush 48, 2) := by decide +kernel
theorem dX9_comes_89 : decode cX9_comes 89 = .ok (.iconst (-1), 1) := by decide +kernel
theorem dX9_comes_90 : decode cX9_comes 90 = .ok (.invokevirtual 59, 3) := by decide +kernel
theorem dX9_comes_93 : decode cX9_comes 93 = .ok (.goto 43, 3) := by decide +kernel
theorem dX9_comes_96 : decode cX9_comes 96 = .ok (.aload_n 0, 1) := by decide +kernel
theorem dX9_comes_97 : decode cX9_comes 97 = .ok (.getfield 7, 3) := by decide +kernel
theorem dX9_comes_100 : decode cX9_comes 100 = .ok (.bipush 17, 2) := by decide +kernel
theorem dX9_comes_102 : decode cX9_comes 102 = .ok (.iload_n 2, 1) := by decide +kernel
theorem dX9_comes_103 : decode cX9_comes 103 = .ok (.iastore, 1) := by decide +kernel
theorem dX9_comes_104 : decode cX9_comes 104 = .ok (.goto 32, 3) := by decide +kernel
theorem dX9_comes_107 : decode cX9_comes 107 = .ok (.aload_n 0, 1) := by decide +kernel
theorem dX9_comes_108 : decode cX9_comes 108 = .ok (.getfield 7, 3) := by decide +kernel
theorem dX9_comes_111 : decode cX9_comes 111 = .ok (.bipush 23, 2) := by decide +kernel
theorem dX9_comes_113 : decode cX9_comes 113 = .ok (.dup2, 1) := by decide +kernel
theorem dX9_comes_114 : decode cX9_comes 114 = .ok (.iaload, 1) := by decide +kernel
theorem dX9_comes_115 : decode cX9_comes 115 = .ok (.aload_n 0, 1) := by decide +kernel
theorem dX9_comes_116 : decode cX9_comes 116 = .ok (.getfield 7, 3) := by decide +kernel
theorem dX9_comes_119 : decode cX9_comes 119 = .ok (.iload_n 1, 1) := by decide +kernel
theorem dX9_comes_120 : decode cX9_comes 120 = .ok (.iconst 5, 1) := by decide +kernel
theorem dX9_comes_121 : decode cX9_comes 121 = .ok (.iadd, 1) := by decide +kernel
theorem dX9_comes_122 : decode cX9_comes 122 = .ok (.iaload, 1) := by decide +kernel
theorem dX9_comes_123 : decode cX9_comes 123 = .ok (.iadd, 1) := by decide +kernel
theorem dX9_comes_124 : decode cX9_comes 124 = .ok (.iastore, 1) := by decide +kernel
theorem dX9_comes_125 : decode cX9_comes 125 = .ok (.goto 11, 3) := by decide +kernel
theorem dX9_comes_128 : decode cX9_comes 128 = .ok (.aload_n 0, 1) := by decide +kernel
theorem dX9_comes_129 : decode cX9_comes 129 = .ok (.getfield 7, 3) := by decide +kernel
theorem dX9_comes_132 : decode cX9_comes 132 = .ok (.bipush 25, 2) := by decide +kernel
theorem dX9_comes_134 : decode cX9_comes 134 = .ok (.iload_n 2, 1) := by decide +kernel
theorem dX9_comes_135 : decode cX9_comes 135 = .ok (.iastore, 1) := by decide +kernel
theorem dX9_comes_136 : decode cX9_comes 136 = .ok (.return_, 1) := by decide +kernel
theorem dX9_allCome_0 : decode cX9_allCome 0 = .ok (.aload_n 0, 1) := by decide +kernel
theorem dX9_allCome_1 : decode cX9_allCome 1 = .ok (.getfield 7, 3) := by decide +kernel
theorem dX9_allCome_4 : decode cX9_allCome 4 = .ok (.iconst 2, 1) := by decide +kernel
theorem dX9_allCome_5 : decode cX9_allCome 5 = .ok (.iaload, 1) := by decide +kernel
theorem dX9_allCome_6 : decode cX9_allCome 6 = .ok (.istore_n 1, 1) := by decide +kernel
theorem dX9_allCome_7 : decode cX9_allCome 7 = .ok (.iconst 0, 1) := by decide +kernel
theorem dX9_allCome_8 : decode cX9_allCome 8 = .ok (.istore_n 2, 1) := by decide +kernel
theorem dX9_allCome_9 : decode cX9_allCome 9 = .ok (.iload_n 2, 1) := by decide +kernel
theorem dX9_allCome_10 : decode cX9_allCome 10 = .ok (.iload_n 1, 1) := by decide +kernel
theorem dX9_allCome_11 : decode cX9_allCome 11 = .ok (.if_icmp .ge 36, 3) := by decide +kernel
theorem dX9_allCome_14 : decode cX9_allCome 14 = .ok (.aload_n 0, 1) := by decide +kernel
theorem dX9_allCome_15 : decode cX9_allCome 15 = .ok (.iload_n 2, 1) := by decide +kernel
theorem dX9_allCome_16 : decode cX9_allCome 16 = .ok (.iconst 3, 1) := by decide +kernel
theorem dX9_allCome_17 : decode cX9_allCome 17 = .ok (.invokevirtual 87, 3) := by decide +kernel
theorem dX9_allCome_20 : decode cX9_allCome 20 = .ok (.aload_n 0, 1) := by decide +kernel
theorem dX9_allCome_21 : decode cX9_allCome 21 = .ok (.getfield 7, 3) := by decide +kernel
theorem dX9_allCome_24 : decode cX9_allCome 24 = .ok (.iconst 4, 1) := by decide +kernel
theorem dX9_allCome_25 : decode cX9_allCome 25 = .ok (.iaload, 1) := by decide +kernel
theorem dX9_allCome_26 : decode cX9_allCome 26 = .ok (.if_icmp .ne 15, 3) := by decide +kernel
theorem dX9_allCome_29 : decode cX9_allCome 29 = .ok (.aload_n 0, 1) := by decide +kernel
theorem dX9_allCome_30 : decode cX9_allCome 30 = .ok (.sipush 664, 3) := by decide +kernel
theorem dX9_allCome_33 : decode cX9_allCome 33 = .ok (.bipush 9, 2) := by decide +kernel
theorem dX9_allCome_35 : decode cX9_allCome 35 = .ok (.iload_n 2, 1) := by decide +kernel
theorem dX9_allCome_36 : decode cX9_allCome 36 = .ok (.imul, 1) := by decide +kernel
theorem dX9_allCome_37 : decode cX9_allCome 37 = .ok (.iadd, 1) := by decide +kernel
theorem dX9_allCome_38 : decode cX9_allCome 38 = .ok (.invokevirtual 90, 3) := by decide +kernel
theorem dX9_allCome_41 : decode cX9_allCome 41 = .ok (.iinc 2 1, 3) := by decide +kernel
theorem dX9_allCome_44 : decode cX9_allCome 44 = .ok (.goto (-35), 3) := by decide +kernel
theorem dX9_allCome_47 : decode cX9_allCome 47 = .ok (.iconst 0, 1) := by decide +kernel
theorem dX9_allCome_48 : decode cX9_allCome 48 = .ok (.istore_n 2, 1) := by decide +kernel
theorem dX9_allCome_49 : decode cX9_allCome 49 = .ok (.iconst 0, 1) := by decide +kernel
theorem dX9_allCome_50 : decode cX9_allCome 50 = .ok (.istore_n 3, 1) := by decide +kernel
theorem dX9_allCome_51 : decode cX9_allCome 51 = .ok (.iload_n 3, 1) := by decide +kernel
theorem dX9_allCome_52 : decode cX9_allCome 52 = .ok (.aload_n 0, 1) := by decide +kernel
theorem dX9_allCome_53 : decode cX9_allCome 53 = .ok (.getfield 7, 3) := by decide +kernel
theorem dX9_allCome_56 : decode cX9_allCome 56 = .ok (.iconst 2, 1) := by decide +kernel
theorem dX9_allCome_57 : decode cX9_allCome 57 = .ok (.iaload, 1) := by decide +kernel
theorem dX9_allCome_58 : decode cX9_allCome 58 = .ok (.if_icmp .ge 69, 3) := by decide +kernel
theorem dX9_allCome_61 : decode cX9_allCome 61 = .ok (.aload_n 0, 1) := by decide +kernel
theorem dX9_allCome_62 : decode cX9_allCome 62 = .ok (.iload_n 3, 1) := by decide +kernel
theorem dX9_allCome_63 : decode cX9_allCome 63 = .ok (.iconst 3, 1) := by decide +kernel
theorem dX9_allCome_64 : decode cX9_allCome 64 = .ok (.invokevirtual 87, 3) := by decide +kernel
theorem dX9_allCome_67 : decode cX9_allCome 67 = .ok (.aload_n 0, 1) := by decide +kernel
theorem dX9_allCome_68 : decode cX9_allCome 68 = .ok (.getfield 7, 3) := by decide +kernel
theorem dX9_allCome_71 : decode cX9_allCome 71 = .ok (.iconst 4, 1) := by decide +kernel
theorem dX9_allCome_72 : decode cX9_allCome 72 = .ok (.iaload, 1) := by decide +kernel
theorem dX9_allCome_73 : decode cX9_allCome 73 = .ok (.if_icmp .ne 6, 3) := by decide +kernel
theorem dX9_allCome_76 : decode cX9_allCome 76 = .ok (.goto 45, 3) := by decide +kernel
theorem dX9_allCome_79 : decode cX9_allCome 79 = .ok (.iconst 0, 1) := by decide +kernel
theorem dX9_allCome_80 : decode cX9_allCome 80 = .ok (.istore 4, 2) := by decide +kernel
theorem dX9_allCome_82 : decode cX9_allCome 82 = .ok (.iload 4, 2) := by decide +kernel
theorem dX9_allCome_84 : decode cX9_allCome 84 = .ok (.bipush 9, 2) := by decide +kernel
theorem dX9_allCome_86 : decode cX9_allCome 86 = .ok (.if_icmp .ge 32, 3) := by decide +kernel
theorem dX9_allCome_89 : decode cX9_allCome 89 = .ok (.aload_n 0, 1) := by decide +kernel
theorem dX9_allCome_90 : decode cX9_allCome 90 = .ok (.getfield 7, 3) := by decide +kernel
theorem dX9_allCome_93 : decode cX9_allCome 93 = .ok (.sipush 664, 3) := by decide +kernel
theorem dX9_allCome_96 : decode cX9_allCome 96 = .ok (.bipush 9, 2) := by decide +kernel
theorem dX9_allCome_98 : decode cX9_allCome 98 = .ok (.iload_n 2, 1) := by decide +kernel
theorem dX9_allCome_99 : decode cX9_allCome 99 = .ok (.imul, 1) := by decide +kernel
theorem dX9_allCome_100 : decode cX9_allCome 100 = .ok (.iadd, 1) := by decide +kernel
theorem dX9_allCome_101 : decode cX9_allCome 101 = .ok (.iload 4, 2) := by decide +kernel
theorem dX9_allCome_103 : decode cX9_allCome 103 = .ok (.iadd, 1) := by decide +kernel
theorem dX9_allCome_104 : decode cX9_allCome 104 = .ok (.aload_n 0, 1) := by decide +kernel
theorem dX9_allCome_105 : decode cX9_allCome 105 = .ok (.iload_n 3, 1) := by decide +kernel
theorem dX9_allCome_106 : decode cX9_allCome 106 = .ok (.iload 4, 2) := by decide +kernel
theorem dX9_allCome_108 : decode cX9_allCome 108 = .ok (.invokevirtual 87, 3) := by decide +kernel
theorem dX9_allCome_111 : decode cX9_allCome 111 = .ok (.iastore, 1) := by decide +kernel
theorem dX9_allCome_112 : decode cX9_allCome 112 = .ok (.iinc 4 1, 3) := by decide +kernel
theorem dX9_allCome_115 : decode cX9_allCome 115 = .ok (.goto (-33), 3) := by decide +kernel
theorem dX9_allCome_118 : decode cX9_allCome 118 = .ok (.iinc 2 1, 3) := by decide +kernel
theorem dX9_allCome_121 : decode cX9_allCome 121 = .ok (.iinc 3 1, 3) := by decide +kernel
theorem dX9_allCome_124 : decode cX9_allCome 124 = .ok (.goto (-73), 3) := by decide +kernel
theorem dX9_allCome_127 : decode cX9_allCome 127 = .ok (.aload_n 0, 1) := by decide +kernel
theorem dX9_allCome_128 : decode cX9_allCome 128 = .ok (.getfield 7, 3) := by decide +kernel
theorem dX9_allCome_131 : decode cX9_allCome 131 = .ok (.iconst 2, 1) := by decide +kernel
theorem dX9_allCome_132 : decode cX9_allCome 132 = .ok (.iload_n 2, 1) := by decide +kernel
theorem dX9_allCome_133 : decode cX9_allCome 133 = .ok (.iastore, 1) := by decide +kernel
theorem dX9_allCome_134 : decode cX9_allCome 134 = .ok (.return_, 1) := by decide +kernel
theorem dX9_works_0 : decode cX9_works 0 = .ok (.aload_n 0, 1) := by decide +kernel
theorem dX9_works_1 : decode cX9_works 1 = .ok (.iload_n 1, 1) := by decide +kernel
theorem dX9_works_2 : decode cX9_works 2 = .ok (.iconst 0, 1) := by decide +kernel
theorem dX9_works_3 : decode cX9_works 3 = .ok (.iconst (-1), 1) := by decide +kernel
theorem dX9_works_4 : decode cX9_works 4 = .ok (.invokevirtual 59, 3) := by decide +kernel
theorem dX9_works_7 : decode cX9_works 7 = .ok (.aload_n 0, 1) := by decide +kernel
theorem dX9_works_8 : decode cX9_works 8 = .ok (.iload_n 1, 1) := by decide +kernel
theorem dX9_works_9 : decode cX9_works 9 = .ok (.bipush 8, 2) := by decide +kernel
theorem dX9_works_11 : decode cX9_works 11 = .ok (.iconst 1, 1) := by decide +kernel
theorem dX9_works_12 : decode cX9_works 12 = .ok (.invokevirtual 59, 3) := by decide +kernel
theorem dX9_works_15 : decode cX9_works 15 = .ok (.aload_n 0, 1) := by decide +kernel
theorem dX9_works_16 : decode cX9_works 16 = .ok (.iload_n 1, 1) := by decide +kernel
theorem dX9_works_17 : decode cX9_works 17 = .ok (.invokevirtual 76, 3) := by decide +kernel
theorem dX9_works_20 : decode cX9_works 20 = .ok (.ifCond .eq 17, 3) := by decide +kernel
theorem dX9_works_23 : decode cX9_works 23 = .ok (.aload_n 0, 1) := by decide +kernel
theorem dX9_works_24 : decode cX9_works 24 = .ok (.iconst 2, 1) := by decide +kernel
theorem dX9_works_25 : decode cX9_works 25 = .ok (.iload_n 1, 1) := by decide +kernel
theorem dX9_works_26 : decode cX9_works 26 = .ok (.invokevirtual 51, 3) := by decide +kernel
theorem dX9_works_29 : decode cX9_works 29 = .ok (.aload_n 0, 1) := by decide +kernel
theorem dX9_works_30 : decode cX9_works 30 = .ok (.getfield 7, 3) := by decide +kernel
theorem dX9_works_33 : decode cX9_works 33 = .ok (.bipush 37, 2) := by decide +kernel
theorem dX9_works_35 : decode cX9_works 35 = .ok (.iload_n 1, 1) := by decide +kernel
theorem dX9_works_36 : decode cX9_works 36 = .ok (.iastore, 1) := by decide +kernel
theorem dX9_works_37 : decode cX9_works 37 = .ok (.iconst 0, 1) := by decide +kernel
theorem dX9_works_38 : decode cX9_works 38 = .ok (.istore_n 2, 1) := by decide +kernel
theorem dX9_works_39 : decode cX9_works 39 = .ok (.iload_n 2, 1) := by decide +kernel
theorem dX9_works_40 : decode cX9_works 40 = .ok (.aload_n 0, 1) := by decide +kernel
theorem dX9_works_41 : decode cX9_works 41 = .ok (.getfield 7, 3) := by decide +kernel
theorem dX9_works_44 : decode cX9_works 44 = .ok (.iconst 1, 1) := by decide +kernel
theorem dX9_works_45 : decode cX9_works 45 = .ok (.iaload, 1) := by decide +kernel
theorem dX9_works_46 : decode cX9_works 46 = .ok (.if_icmp .ge 66, 3) := by decide +kernel
theorem dX9_works_49 : decode cX9_works 49 = .ok (.sipush 504, 3) := by decide +kernel
theorem dX9_works_52 : decode cX9_works 52 = .ok (.iconst 4, 1) := by decide +kernel
theorem dX9_works_53 : decode cX9_works 53 = .ok (.iload_n 2, 1) := by decide +kernel
theorem dX9_works_54 : decode cX9_works 54 = .ok (.imul, 1) := by decide +kernel
theorem dX9_works_55 : decode cX9_works 55 = .ok (.iadd, 1) := by decide +kernel
theorem dX9_works_56 : decode cX9_works 56 = .ok (.istore_n 3, 1) := by decide +kernel
theorem dX9_works_57 : decode cX9_works 57 = .ok (.aload_n 0, 1) := by decide +kernel
theorem dX9_works_58 : decode cX9_works 58 = .ok (.getfield 7, 3) := by decide +kernel
theorem dX9_works_61 : decode cX9_works 61 = .ok (.iload_n 3, 1) := by decide +kernel
theorem dX9_works_62 : decode cX9_works 62 = .ok (.iaload, 1) := by decide +kernel
theorem dX9_works_63 : decode cX9_works 63 = .ok (.iload_n 1, 1) := by decide +kernel
theorem dX9_works_64 : decode cX9_works 64 = .ok (.if_icmp .ne 42, 3) := by decide +kernel
theorem dX9_works_67 : decode cX9_works 67 = .ok (.aload_n 0, 1) := by decide +kernel
theorem dX9_works_68 : decode cX9_works 68 = .ok (.getfield 7, 3) := by decide +kernel
theorem dX9_works_71 : decode cX9_works 71 = .ok (.iload_n 3, 1) := by decide +kernel
theorem dX9_works_72 : decode cX9_works 72 = .ok (.iconst 1, 1) := by decide +kernel
theorem dX9_works_73 : decode cX9_works 73 = .ok (.iadd, 1) := by decide +kernel
theorem dX9_works_74 : decode cX9_works 74 = .ok (.iaload, 1) := by decide +kernel
theorem dX9_works_75 : decode cX9_works 75 = .ok (.aload_n 0, 1) := by decide +kernel
theorem dX9_works_76 : decode cX9_works 76 = .ok (.iload_n 1, 1) := by decide +kernel
theorem dX9_works_77 : decode cX9_works 77 = .ok (.bipush 8, 2) := by decide +kernel
theorem dX9_works_79 : decode cX9_works 79 = .ok (.invokevirtual 47, 3) := by decide +kernel
theorem dX9_works_82 : decode cX9_works 82 = .ok (.if_icmp .ne 24, 3) := by decide +kernel
theorem dX9_works_85 : decode cX9_works 85 = .ok (.aload_n 0, 1) := by decide +kernel
theorem dX9_works_86 : decode cX9_works 86 = .ok (.iload_n 1, 1) := by decide +kernel
theorem dX9_works_87 : decode cX9_works 87 = .ok (.aload_n 0, 1) := by decide +kernel
theorem dX9_works_88 : decode cX9_works 88 = .ok (.getfield 7, 3) := by decide +kernel
theorem dX9_works_91 : decode cX9_works 91 = .ok (.iload_n 3, 1) := by decide +kernel
theorem dX9_works_92 : decode cX9_works 92 = .ok (.iconst 2, 1) := by decide +kernel
theorem dX9_works_93 : decode cX9_works 93 = .ok (.iadd, 1) := by decide +kernel
theorem dX9_works_94 : decode cX9_works 94 = .ok (.iaload, 1) := by decide +kernel
theorem dX9_works_95 : decode cX9_works 95 = .ok (.aload_n 0, 1) := by decide +kernel
theorem dX9_works_96 : decode cX9_works 96 = .ok (.getfield 7, 3) := by decide +kernel
theorem dX9_works_99 : decode cX9_works 99 = .ok (.iload_n 3, 1) := by decide +kernel
theorem dX9_works_100 : decode cX9_works 100 = .ok (.iconst 3, 1) := by decide +kernel
theorem dX9_works_101 : decode cX9_works 101 = .ok (.iadd, 1) := by decide +kernel
theorem dX9_works_102 : decode cX9_works 102 = .ok (.iaload, 1) := by decide +kernel
theorem dX9_works_103 : decode cX9_works 103 = .ok (.invokevirtual 93, 3) := by decide +kernel
theorem dX9_works_106 : decode cX9_works 106 = .ok (.iinc 2 1, 3) := by decide +kernel
theorem dX9_works_109 : decode cX9_works 109 = .ok (.goto (-70), 3) := by decide +kernel
theorem dX9_works_112 : decode cX9_works 112 = .ok (.return_, 1) := by decide +kernel
theorem dX9_watchesTree_0 : decode cX9_watchesTree 0 = .ok (.aload_n 0, 1) := by decide +kernel
theorem dX9_watchesTree_1 : decode cX9_watchesTree 1 = .ok (.iload_n 1, 1) := by decide +kernel
theorem dX9_watchesTree_2 : decode cX9_watchesTree 2 = .ok (.bipush 40, 2) := by decide +kernel
theorem dX9_watchesTree_4 : decode cX9_watchesTree 4 = .ok (.invokevirtual 47, 3) := by decide +kernel
theorem dX9_watchesTree_7 : decode cX9_watchesTree 7 = .ok (.ifCond .eq 13, 3) := by decide +kernel
theorem dX9_watchesTree_10 : decode cX9_watchesTree 10 = .ok (.aload_n 0, 1) := by decide +kernel
theorem dX9_watchesTree_11 : decode cX9_watchesTree 11 = .ok (.iload_n 1, 1) := by decide +kernel
theorem dX9_watchesTree_12 : decode cX9_watchesTree 12 = .ok (.bipush 48, 2) := by decide +kernel
theorem dX9_watchesTree_14 : decode cX9_watchesTree 14 = .ok (.invokevirtual 47, 3) := by decide +kernel
theorem dX9_watchesTree_17 : decode cX9_watchesTree 17 = .ok (.ifCond .eq 4, 3) := by decide +kernel
theorem dX9_watchesTree_20 : decode cX9_watchesTree 20 = .ok (.return_, 1) := by decide +kernel
theorem dX9_watchesTree_21 : decode cX9_watchesTree 21 = .ok (.iload_n 1, 1) := by decide +kernel
theorem dX9_watchesTree_22 : decode cX9_watchesTree 22 = .ok (.ifCond .ne 9, 3) := by decide +kernel
theorem dX9_watchesTree_25 : decode cX9_watchesTree 25 = .ok (.aload_n 0, 1) := by decide +kernel
theorem dX9_watchesTree_26 : decode cX9_watchesTree 26 = .ok (.iconst 0, 1) := by decide +kernel
theorem dX9_watchesTree_27 : decode cX9_watchesTree 27 = .ok (.invokevirtual 96, 3) := by decide +kernel
theorem dX9_watchesTree_30 : decode cX9_watchesTree 30 = .ok (.return_, 1) := by decide +kernel
theorem dX9_watchesTree_31 : decode cX9_watchesTree 31 = .ok (.aload_n 0, 1) := by decide +kernel
theorem dX9_watchesTree_32 : decode cX9_watchesTree 32 = .ok (.iconst 0, 1) := by decide +kernel
theorem dX9_watchesTree_33 : decode cX9_watchesTree 33 = .ok (.iconst 1, 1) := by decide +kernel
theorem dX9_watchesTree_34 : decode cX9_watchesTree 34 = .ok (.iload_n 1, 1) := by decide +kernel
theorem dX9_watchesTree_35 : decode cX9_watchesTree 35 = .ok (.aload_n 0, 1) := by decide +kernel
theorem dX9_watchesTree_36 : decode cX9_watchesTree 36 = .ok (.iload_n 1, 1) := by decide +kernel
theorem dX9_watchesTree_37 : decode cX9_watchesTree 37 = .ok (.bipush 32, 2) := by decide +kernel
theorem dX9_watchesTree_39 : decode cX9_watchesTree 39 = .ok (.invokevirtual 47, 3) := by decide +kernel
theorem dX9_watchesTree_42 : decode cX9_watchesTree 42 = .ok (.invokevirtual 80, 3) := by decide +kernel
theorem dX9_watchesTree_45 : decode cX9_watchesTree 45 = .ok (.aload_n 0, 1) := by decide +kernel
theorem dX9_watchesTree_46 : decode cX9_watchesTree 46 = .ok (.iload_n 1, 1) := by decide +kernel
theorem dX9_watchesTree_47 : decode cX9_watchesTree 47 = .ok (.bipush 40, 2) := by decide +kernel
theorem dX9_watchesTree_49 : decode cX9_watchesTree 49 = .ok (.iconst 0, 1) := by decide +kernel
theorem dX9_watchesTree_50 : decode cX9_watchesTree 50 = .ok (.invokevirtual 63, 3) := by decide +kernel
theorem dX9_watchesTree_53 : decode cX9_watchesTree 53 = .ok (.aload_n 0, 1) := by decide +kernel
theorem dX9_watchesTree_54 : decode cX9_watchesTree 54 = .ok (.iload_n 1, 1) := by decide +kernel
theorem dX9_watchesTree_55 : decode cX9_watchesTree 55 = .ok (.bipush 32, 2) := by decide +kernel
theorem dX9_watchesTree_57 : decode cX9_watchesTree 57 = .ok (.iconst (-1), 1) := by decide +kernel
theorem dX9_watchesTree_58 : decode cX9_watchesTree 58 = .ok (.invokevirtual 63, 3) := by decide +kernel
theorem dX9_watchesTree_61 : decode cX9_watchesTree 61 = .ok (.return_, 1) := by decide +kernel
theorem dX9_tokenGoes_0 : decode cX9_tokenGoes 0 = .ok (.aload_n 0, 1) := by decide +kernel
theorem dX9_tokenGoes_1 : decode cX9_tokenGoes 1 = .ok (.getfield 7, 3) := by decide +kernel
theorem dX9_tokenGoes_4 : decode cX9_tokenGoes 4 = .ok (.bipush 17, 2) := by decide +kernel
theorem dX9_tokenGoes_6 : decode cX9_tokenGoes 6 = .ok (.iconst (-1), 1) := by decide +kernel
theorem dX9_tokenGoes_7 : decode cX9_tokenGoes 7 = .ok (.iastore, 1) := by decide +kernel
theorem dX9_tokenGoes_8 : decode cX9_tokenGoes 8 = .ok (.aload_n 0, 1) := by decide +kernel
theorem dX9_tokenGoes_9 : decode cX9_tokenGoes 9 = .ok (.iconst 1, 1) := by decide +kernel
theorem dX9_tokenGoes_10 : decode cX9_tokenGoes 10 = .ok (.iconst 2, 1) := by decide +kernel
theorem dX9_tokenGoes_11 : decode cX9_tokenGoes 11 = .ok (.iload_n 1, 1) := by decide +kernel
theorem dX9_tokenGoes_12 : decode cX9_tokenGoes 12 = .ok (.iload_n 2, 1) := by decide +kernel
theorem dX9_tokenGoes_13 : decode cX9_tokenGoes 13 = .ok (.invokevirtual 80, 3) := by decide +kernel
theorem dX9_tokenGoes_16 : decode cX9_tokenGoes 16 = .ok (.return_, 1) := by decide +kernel
theorem dX9_watchesToken_0 : decode cX9_watchesToken 0 = .ok (.aload_n 0, 1) := by decide +kernel
theorem dX9_watchesToken_1 : decode cX9_watchesToken 1 = .ok (.getfield 7, 3) := by decide +kernel
theorem dX9_watchesToken_4 : decode cX9_watchesToken 4 = .ok (.bipush 17, 2) := by decide +kernel
theorem dX9_watchesToken_6 : decode cX9_watchesToken 6 = .ok (.iaload, 1) := by decide +kernel
theorem dX9_watchesToken_7 : decode cX9_watchesToken 7 = .ok (.iload_n 1, 1) := by decide +kernel
theorem dX9_watchesToken_8 : decode cX9_watchesToken 8 = .ok (.if_icmp .eq 4, 3) := by decide +kernel
theorem dX9_watchesToken_11 : decode cX9_watchesToken 11 = .ok (.return_, 1) := by decide +kernel
theorem dX9_watchesToken_12 : decode cX9_watchesToken 12 = .ok (.iload_n 1, 1) := by decide +kernel
theorem dX9_watchesToken_13 : decode cX9_watchesToken 13 = .ok (.ifCond .le 56, 3) := by decide +kernel
theorem dX9_watchesToken_16 : decode cX9_watchesToken 16 = .ok (.aload_n 0, 1) := by decide +kernel
theorem dX9_watchesToken_17 : decode cX9_watchesToken 17 = .ok (.getfield 7, 3) := by decide +kernel
theorem dX9_watchesToken_20 : decode cX9_watchesToken 20 = .ok (.bipush 18, 2) := by decide +kernel
theorem dX9_watchesToken_22 : decode cX9_watchesToken 22 = .ok (.dup2, 1) := by decide +kernel
theorem dX9_watchesToken_23 : decode cX9_watchesToken 23 = .ok (.iaload, 1) := by decide +kernel
theorem dX9_watchesToken_24 : decode cX9_watchesToken 24 = .ok (.aload_n 0, 1) := by decide +kernel
theorem dX9_watchesToken_25 : decode cX9_watchesToken 25 = .ok (.iload_n 1, 1) := by decide +kernel
theorem dX9_watchesToken_26 : decode cX9_watchesToken 26 = .ok (.bipush 56, 2) := by decide +kernel
theorem dX9_watchesToken_28 : decode cX9_watchesToken 28 = .ok (.invokevirtual 47, 3) := by decide +kernel
theorem dX9_watchesToken_31 : decode cX9_watchesToken 31 = .ok (.iadd, 1) := by decide +kernel
theorem dX9_watchesToken_32 : decode cX9_watchesToken 32 = .ok (.iastore, 1) := by decide +kernel
theorem dX9_watchesToken_33 : decode cX9_watchesToken 33 = .ok (.aload_n 0, 1) := by decide +kernel
theorem dX9_watchesToken_34 : decode cX9_watchesToken 34 = .ok (.iload_n 1, 1) := by decide +kernel
theorem dX9_watchesToken_35 : decode cX9_watchesToken 35 = .ok (.bipush 64, 2) := by decide +kernel
theorem dX9_watchesToken_37 : decode cX9_watchesToken 37 = .ok (.invokevirtual 47, 3) := by decide +kernel
theorem dX9_watchesToken_40 : decode cX9_watchesToken 40 = .ok (.iconst 1, 1) := by decide +kernel
theorem dX9_watchesToken_41 : decode cX9_watchesToken 41 = .ok (.if_icmp .ne 11, 3) := by decide +kernel
theorem dX9_watchesToken_44 : decode cX9_watchesToken 44 = .ok (.aload_n 0, 1) := by decide +kernel
theorem dX9_watchesToken_45 : decode cX9_watchesToken 45 = .ok (.getfield 7, 3) := by decide +kernel
theorem dX9_watchesToken_48 : decode cX9_watchesToken 48 = .ok (.bipush 19, 2) := by decide +kernel
theorem dX9_watchesToken_50 : decode cX9_watchesToken 50 = .ok (.iconst 1, 1) := by decide +kernel
theorem dX9_watchesToken_51 : decode cX9_watchesToken 51 = .ok (.iastore, 1) := by decide +kernel
theorem dX9_watchesToken_52 : decode cX9_watchesToken 52 = .ok (.aload_n 0, 1) := by decide +kernel
theorem dX9_watchesToken_53 : decode cX9_watchesToken 53 = .ok (.iload_n 1, 1) := by decide +kernel
theorem dX9_watchesToken_54 : decode cX9_watchesToken 54 = .ok (.bipush 64, 2) := by decide +kernel
theorem dX9_watchesToken_56 : decode cX9_watchesToken 56 = .ok (.iconst 0, 1) := by decide +kernel
theorem dX9_watchesToken_57 : decode cX9_watchesToken 57 = .ok (.invokevirtual 63, 3) := by decide +kernel
theorem dX9_watchesToken_60 : decode cX9_watchesToken 60 = .ok (.aload_n 0, 1) := by decide +kernel
theorem dX9_watchesToken_61 : decode cX9_watchesToken 61 = .ok (.iload_n 1, 1) := by decide +kernel
theorem dX9_watchesToken_62 : decode cX9_watchesToken 62 = .ok (.iload_n 1, 1) := by decide +kernel
theorem dX9_watchesToken_63 : decode cX9_watchesToken 63 = .ok (.iconst 1, 1) := by decide +kernel
theorem dX9_watchesToken_64 : decode cX9_watchesToken 64 = .ok (.isub, 1) := by decide +kernel
theorem dX9_watchesToken_65 : decode cX9_watchesToken 65 = .ok (.invokevirtual 99, 3) := by decide +kernel
theorem dX9_watchesToken_68 : decode cX9_watchesToken 68 = .ok (.return_, 1) := by decide +kernel
theorem dX9_watchesToken_69 : decode cX9_watchesToken 69 = .ok (.aload_n 0, 1) := by decide +kernel
theorem dX9_watchesToken_70 : decode cX9_watchesToken 70 = .ok (.getfield 7, 3) := by decide +kernel
theorem dX9_watchesToken_73 : decode cX9_watchesToken 73 = .ok (.bipush 20, 2) := by decide +kernel
theorem dX9_watchesToken_75 : decode cX9_watchesToken 75 = .ok (.iaload, 1) := by decide +kernel
theorem dX9_watchesToken_76 : decode cX9_watchesToken 76 = .ok (.ifCond .ne 45, 3) := by decide +kernel
theorem dX9_watchesToken_79 : decode cX9_watchesToken 79 = .ok (.aload_n 0, 1) := by decide +kernel
theorem dX9_watchesToken_80 : decode cX9_watchesToken 80 = .ok (.getfield 7, 3) := by decide +kernel
theorem dX9_watchesToken_83 : decode cX9_watchesToken 83 = .ok (.bipush 19, 2) := by decide +kernel
theorem dX9_watchesToken_85 : decode cX9_watchesToken 85 = .ok (.iaload, 1) := by decide +kernel
theorem dX9_watchesToken_86 : decode cX9_watchesToken 86 = .ok (.ifCond .ne 35, 3) := by decide +kernel
theorem dX9_watchesToken_89 : decode cX9_watchesToken 89 = .ok (.aload_n 0, 1) := by decide +kernel
theorem dX9_watchesToken_90 : decode cX9_watchesToken 90 = .ok (.iconst 0, 1) := by decide +kernel
theorem dX9_watchesToken_91 : decode cX9_watchesToken 91 = .ok (.bipush 64, 2) := by decide +kernel
theorem dX9_watchesToken_93 : decode cX9_watchesToken 93 = .ok (.invokevirtual 47, 3) := by decide +kernel
theorem dX9_watchesToken_96 : decode cX9_watchesToken 96 = .ok (.ifCond .ne 25, 3) := by decide +kernel
theorem dX9_watchesToken_99 : decode cX9_watchesToken 99 = .ok (.aload_n 0, 1) := by decide +kernel
theorem dX9_watchesToken_100 : decode cX9_watchesToken 100 = .ok (.getfield 7, 3) := by decide +kernel
theorem dX9_watchesToken_103 : decode cX9_watchesToken 103 = .ok (.bipush 18, 2) := by decide +kernel
theorem dX9_watchesToken_105 : decode cX9_watchesToken 105 = .ok (.iaload, 1) := by decide +kernel
theorem dX9_watchesToken_106 : decode cX9_watchesToken 106 = .ok (.aload_n 0, 1) := by decide +kernel
theorem dX9_watchesToken_107 : decode cX9_watchesToken 107 = .ok (.iconst 0, 1) := by decide +kernel
theorem dX9_watchesToken_108 : decode cX9_watchesToken 108 = .ok (.bipush 56, 2) := by decide +kernel
theorem dX9_watchesToken_110 : decode cX9_watchesToken 110 = .ok (.invokevirtual 47, 3) := by decide +kernel
theorem dX9_watchesToken_113 : decode cX9_watchesToken 113 = .ok (.iadd, 1) := by decide +kernel
theorem dX9_watchesToken_114 : decode cX9_watchesToken 114 = .ok (.ifCond .ne 7, 3) := by decide +kernel
theorem dX9_watchesToken_117 : decode cX9_watchesToken 117 = .ok (.iconst 1, 1) := by decide +kernel
theorem dX9_watchesToken_118 : decode cX9_watchesToken 118 = .ok (.goto 4, 3) := by decide +kernel
theorem dX9_watchesToken_121 : decode cX9_watchesToken 121 = .ok (.iconst 0, 1) := by decide +kernel
theorem dX9_watchesToken_122 : decode cX9_watchesToken 122 = .ok (.istore_n 2, 1) := by decide +kernel
theorem dX9_watchesToken_123 : decode cX9_watchesToken 123 = .ok (.iload_n 2, 1) := by decide +kernel
theorem dX9_watchesToken_124 : decode cX9_watchesToken 124 = .ok (.ifCond .eq 9, 3) := by decide +kernel
theorem dX9_watchesToken_127 : decode cX9_watchesToken 127 = .ok (.aload_n 0, 1) := by decide +kernel
theorem dX9_watchesToken_128 : decode cX9_watchesToken 128 = .ok (.iconst 1, 1) := by decide +kernel
theorem dX9_watchesToken_129 : decode cX9_watchesToken 129 = .ok (.invokevirtual 96, 3) := by decide +kernel
theorem dX9_watchesToken_132 : decode cX9_watchesToken 132 = .ok (.return_, 1) := by decide +kernel
theorem dX9_watchesToken_133 : decode cX9_watchesToken 133 = .ok (.aload_n 0, 1) := by decide +kernel
theorem dX9_watchesToken_134 : decode cX9_watchesToken 134 = .ok (.iconst 0, 1) := by decide +kernel
theorem dX9_watchesToken_135 : decode cX9_watchesToken 135 = .ok (.bipush 64, 2) := by decide +kernel
theorem dX9_watchesToken_137 : decode cX9_watchesToken 137 = .ok (.iconst 0, 1) := by decide +kernel
theorem dX9_watchesToken_138 : decode cX9_watchesToken 138 = .ok (.invokevirtual 63, 3) := by decide +kernel
theorem dX9_watchesToken_141 : decode cX9_watchesToken 141 = .ok (.aload_n 0, 1) := by decide +kernel
theorem dX9_watchesToken_142 : decode cX9_watchesToken 142 = .ok (.getfield 7, 3) := by decide +kernel
theorem dX9_watchesToken_145 : decode cX9_watchesToken 145 = .ok (.bipush 19, 2) := by decide +kernel
theorem dX9_watchesToken_147 : decode cX9_watchesToken 147 = .ok (.iconst 0, 1) := by decide +kernel
theorem dX9_watchesToken_148 : decode cX9_watchesToken 148 = .ok (.iastore, 1) := by decide +kernel
theorem dX9_watchesToken_149 : decode cX9_watchesToken 149 = .ok (.aload_n 0, 1) := by decide +kernel
theorem dX9_watchesToken_150 : decode cX9_watchesToken 150 = .ok (.getfield 7, 3) := by decide +kernel
theorem dX9_watchesToken_153 : decode cX9_watchesToken 153 = .ok (.bipush 18, 2) := by decide +kernel
theorem dX9_watchesToken_155 : decode cX9_watchesToken 155 = .ok (.iconst 0, 1) := by decide +kernel
theorem dX9_watchesToken_156 : decode cX9_watchesToken 156 = .ok (.iastore, 1) := by decide +kernel
theorem dX9_watchesToken_157 : decode cX9_watchesToken 157 = .ok (.aload_n 0, 1) := by decide +kernel
theorem dX9_watchesToken_158 : decode cX9_watchesToken 158 = .ok (.getfield 7, 3) := by decide +kernel
theorem dX9_watchesToken_161 : decode cX9_watchesToken 161 = .ok (.bipush 20, 2) := by decide +kernel
theorem dX9_watchesToken_163 : decode cX9_watchesToken 163 = .ok (.iconst 0, 1) := by decide +kernel
theorem dX9_watchesToken_164 : decode cX9_watchesToken 164 = .ok (.iastore, 1) := by decide +kernel
theorem dX9_watchesToken_165 : decode cX9_watchesToken 165 = .ok (.aload_n 0, 1) := by decide +kernel
theorem dX9_watchesToken_166 : decode cX9_watchesToken 166 = .ok (.getfield 7, 3) := by decide +kernel
theorem dX9_watchesToken_169 : decode cX9_watchesToken 169 = .ok (.bipush 21, 2) := by decide +kernel
theorem dX9_watchesToken_171 : decode cX9_watchesToken 171 = .ok (.dup2, 1) := by decide +kernel
theorem dX9_watchesToken_172 : decode cX9_watchesToken 172 = .ok (.iaload, 1) := by decide +kernel
theorem dX9_watchesToken_173 : decode cX9_watchesToken 173 = .ok (.iconst 1, 1) := by decide +kernel
theorem dX9_watchesToken_174 : decode cX9_watchesToken 174 = .ok (.iadd, 1) := by decide +kernel
theorem dX9_watchesToken_175 : decode cX9_watchesToken 175 = .ok (.iastore, 1) := by decide +kernel
theorem dX9_watchesToken_176 : decode cX9_watchesToken 176 = .ok (.aload_n 0, 1) := by decide +kernel
theorem dX9_watchesToken_177 : decode cX9_watchesToken 177 = .ok (.bipush 6, 2) := by decide +kernel
theorem dX9_watchesToken_179 : decode cX9_watchesToken 179 = .ok (.iconst 1, 1) := by decide +kernel
theorem dX9_watchesToken_180 : decode cX9_watchesToken 180 = .ok (.invokevirtual 51, 3) := by decide +kernel
theorem dX9_watchesToken_183 : decode cX9_watchesToken 183 = .ok (.aload_n 0, 1) := by decide +kernel
theorem dX9_watchesToken_184 : decode cX9_watchesToken 184 = .ok (.iconst 0, 1) := by decide +kernel
theorem dX9_watchesToken_185 : decode cX9_watchesToken 185 = .ok (.aload_n 0, 1) := by decide +kernel
theorem dX9_watchesToken_186 : decode cX9_watchesToken 186 = .ok (.getfield 7, 3) := by decide +kernel
theorem dX9_watchesToken_189 : decode cX9_watchesToken 189 = .ok (.iconst 0, 1) := by decide +kernel
theorem dX9_watchesToken_190 : decode cX9_watchesToken 190 = .ok (.iaload, 1) := by decide +kernel
theorem dX9_watchesToken_191 : decode cX9_watchesToken 191 = .ok (.iconst 1, 1) := by decide +kernel
theorem dX9_watchesToken_192 : decode cX9_watchesToken 192 = .ok (.isub, 1) := by decide +kernel
theorem dX9_watchesToken_193 : decode cX9_watchesToken 193 = .ok (.invokevirtual 99, 3) := by decide +kernel
theorem dX9_watchesToken_196 : decode cX9_watchesToken 196 = .ok (.return_, 1) := by decide +kernel
theorem dX9_watchesWeight_0 : decode cX9_watchesWeight 0 = .ok (.aload_n 0, 1) := by decide +kernel
theorem dX9_watchesWeight_1 : decode cX9_watchesWeight 1 = .ok (.iload_n 1, 1) := by decide +kernel
theorem dX9_watchesWeight_2 : decode cX9_watchesWeight 2 = .ok (.bipush 72, 2) := by decide +kernel
theorem dX9_watchesWeight_4 : decode cX9_watchesWeight 4 = .ok (.invokevirtual 47, 3) := by decide +kernel
theorem dX9_watchesWeight_7 : decode cX9_watchesWeight 7 = .ok (.istore_n 2, 1) := by decide +kernel
theorem dX9_watchesWeight_8 : decode cX9_watchesWeight 8 = .ok (.aload_n 0, 1) := by decide +kernel
theorem dX9_watchesWeight_9 : decode cX9_watchesWeight 9 = .ok (.iload_n 1, 1) := by decide +kernel
theorem dX9_watchesWeight_10 : decode cX9_watchesWeight 10 = .ok (.bipush 72, 2) := by decide +kernel
theorem dX9_watchesWeight_12 : decode cX9_watchesWeight 12 = .ok (.iconst 0, 1) := by decide +kernel
theorem dX9_watchesWeight_13 : decode cX9_watchesWeight 13 = .ok (.invokevirtual 63, 3) := by decide +kernel
theorem dX9_watchesWeight_16 : decode cX9_watchesWeight 16 = .ok (.iload_n 1, 1) := by decide +kernel
theorem dX9_watchesWeight_17 : decode cX9_watchesWeight 17 = .ok (.ifCond .ne 39, 3) := by decide +kernel
theorem dX9_watchesWeight_20 : decode cX9_watchesWeight 20 = .ok (.aload_n 0, 1) := by decide +kernel
theorem dX9_watchesWeight_21 : decode cX9_watchesWeight 21 = .ok (.getfield 7, 3) := by decide +kernel
theorem dX9_watchesWeight_24 : decode cX9_watchesWeight 24 = .ok (.bipush 23, 2) := by decide +kernel
theorem dX9_watchesWeight_26 : decode cX9_watchesWeight 26 = .ok (.dup2, 1) := by decide +kernel
theorem dX9_watchesWeight_27 : decode cX9_watchesWeight 27 = .ok (.iaload, 1) := by decide +kernel
theorem dX9_watchesWeight_28 : decode cX9_watchesWeight 28 = .ok (.iload_n 2, 1) := by decide +kernel
theorem dX9_watchesWeight_29 : decode cX9_watchesWeight 29 = .ok (.iadd, 1) := by decide +kernel
theorem dX9_watchesWeight_30 : decode cX9_watchesWeight 30 = .ok (.iastore, 1) := by decide +kernel
theorem dX9_watchesWeight_31 : decode cX9_watchesWeight 31 = .ok (.aload_n 0, 1) := by decide +kernel
theorem dX9_watchesWeight_32 : decode cX9_watchesWeight 32 = .ok (.getfield 7, 3) := by decide +kernel
theorem dX9_watchesWeight_35 : decode cX9_watchesWeight 35 = .ok (.bipush 23, 2) := by decide +kernel
theorem dX9_watchesWeight_37 : decode cX9_watchesWeight 37 = .ok (.iaload, 1) := by decide +kernel
theorem dX9_watchesWeight_38 : decode cX9_watchesWeight 38 = .ok (.aload_n 0, 1) := by decide +kernel
theorem dX9_watchesWeight_39 : decode cX9_watchesWeight 39 = .ok (.getfield 7, 3) := by decide +kernel
theorem dX9_watchesWeight_42 : decode cX9_watchesWeight 42 = .ok (.bipush 22, 2) := by decide +kernel
theorem dX9_watchesWeight_44 : decode cX9_watchesWeight 44 = .ok (.iaload, 1) := by decide +kernel
theorem dX9_watchesWeight_45 : decode cX9_watchesWeight 45 = .ok (.if_icmp .ne 41, 3) := by decide +kernel
theorem dX9_watchesWeight_48 : decode cX9_watchesWeight 48 = .ok (.aload_n 0, 1) := by decide +kernel
theorem dX9_watchesWeight_49 : decode cX9_watchesWeight 49 = .ok (.iconst 2, 1) := by decide +kernel
theorem dX9_watchesWeight_50 : decode cX9_watchesWeight 50 = .ok (.invokevirtual 96, 3) := by decide +kernel
theorem dX9_watchesWeight_53 : decode cX9_watchesWeight 53 = .ok (.goto 33, 3) := by decide +kernel
theorem dX9_watchesWeight_56 : decode cX9_watchesWeight 56 = .ok (.iload_n 2, 1) := by decide +kernel
theorem dX9_watchesWeight_57 : decode cX9_watchesWeight 57 = .ok (.ifCond .le 29, 3) := by decide +kernel
theorem dX9_watchesWeight_60 : decode cX9_watchesWeight 60 = .ok (.aload_n 0, 1) := by decide +kernel
theorem dX9_watchesWeight_61 : decode cX9_watchesWeight 61 = .ok (.getfield 7, 3) := by decide +kernel
theorem dX9_watchesWeight_64 : decode cX9_watchesWeight 64 = .ok (.bipush 14, 2) := by decide +kernel
theorem dX9_watchesWeight_66 : decode cX9_watchesWeight 66 = .ok (.dup2, 1) := by decide +kernel
theorem dX9_watchesWeight_67 : decode cX9_watchesWeight 67 = .ok (.iaload, 1) := by decide +kernel
theorem dX9_watchesWeight_68 : decode cX9_watchesWeight 68 = .ok (.iconst 1, 1) := by decide +kernel
theorem dX9_watchesWeight_69 : decode cX9_watchesWeight 69 = .ok (.iadd, 1) := by decide +kernel
theorem dX9_watchesWeight_70 : decode cX9_watchesWeight 70 = .ok (.iastore, 1) := by decide +kernel
theorem dX9_watchesWeight_71 : decode cX9_watchesWeight 71 = .ok (.aload_n 0, 1) := by decide +kernel
theorem dX9_watchesWeight_72 : decode cX9_watchesWeight 72 = .ok (.getfield 7, 3) := by decide +kernel
theorem dX9_watchesWeight_75 : decode cX9_watchesWeight 75 = .ok (.aload_n 0, 1) := by decide +kernel
theorem dX9_watchesWeight_76 : decode cX9_watchesWeight 76 = .ok (.iconst 3, 1) := by decide +kernel
theorem dX9_watchesWeight_77 : decode cX9_watchesWeight 77 = .ok (.iload_n 1, 1) := by decide +kernel
theorem dX9_watchesWeight_78 : decode cX9_watchesWeight 78 = .ok (.iconst 0, 1) := by decide +kernel
theorem dX9_watchesWeight_79 : decode cX9_watchesWeight 79 = .ok (.invokevirtual 55, 3) := by decide +kernel
theorem dX9_watchesWeight_82 : decode cX9_watchesWeight 82 = .ok (.iconst 5, 1) := by decide +kernel
theorem dX9_watchesWeight_83 : decode cX9_watchesWeight 83 = .ok (.iadd, 1) := by decide +kernel
theorem dX9_watchesWeight_84 : decode cX9_watchesWeight 84 = .ok (.iload_n 2, 1) := by decide +kernel
theorem dX9_watchesWeight_85 : decode cX9_watchesWeight 85 = .ok (.iastore, 1) := by decide +kernel
theorem dX9_watchesWeight_86 : decode cX9_watchesWeight 86 = .ok (.return_, 1) := by decide +kernel
theorem dX9_areAlike_0 : decode cX9_areAlike 0 = .ok (.aload_n 0, 1) := by decide +kernel
theorem dX9_areAlike_1 : decode cX9_areAlike 1 = .ok (.getfield 7, 3) := by decide +kernel
theorem dX9_areAlike_4 : decode cX9_areAlike 4 = .ok (.bipush 30, 2) := by decide +kernel
theorem dX9_areAlike_6 : decode cX9_areAlike 6 = .ok (.iaload, 1) := by decide +kernel
theorem dX9_areAlike_7 : decode cX9_areAlike 7 = .ok (.iconst 1, 1) := by decide +kernel
theorem dX9_areAlike_8 : decode cX9_areAlike 8 = .ok (.if_icmp .ne 58, 3) := by decide +kernel
theorem dX9_areAlike_11 : decode cX9_areAlike 11 = .ok (.aload_n 0, 1) := by decide +kernel
theorem dX9_areAlike_12 : decode cX9_areAlike 12 = .ok (.getfield 7, 3) := by decide +kernel
theorem dX9_areAlike_15 : decode cX9_areAlike 15 = .ok (.bipush 26, 2) := by decide +kernel
theorem dX9_areAlike_17 : decode cX9_areAlike 17 = .ok (.iaload, 1) := by decide +kernel
theorem dX9_areAlike_18 : decode cX9_areAlike 18 = .ok (.aload_n 0, 1) := by decide +kernel
theorem dX9_areAlike_19 : decode cX9_areAlike 19 = .ok (.getfield 7, 3) := by decide +kernel
theorem dX9_areAlike_22 : decode cX9_areAlike 22 = .ok (.bipush 27, 2) := by decide +kernel
theorem dX9_areAlike_24 : decode cX9_areAlike 24 = .ok (.iaload, 1) := by decide +kernel
theorem dX9_areAlike_25 : decode cX9_areAlike 25 = .ok (.if_icmp .ne 41, 3) := by decide +kernel
theorem dX9_areAlike_28 : decode cX9_areAlike 28 = .ok (.aload_n 0, 1) := by decide +kernel
theorem dX9_areAlike_29 : decode cX9_areAlike 29 = .ok (.getfield 7, 3) := by decide +kernel
theorem dX9_areAlike_32 : decode cX9_areAlike 32 = .ok (.bipush 26, 2) := by decide +kernel
theorem dX9_areAlike_34 : decode cX9_areAlike 34 = .ok (.iaload, 1) := by decide +kernel
theorem dX9_areAlike_35 : decode cX9_areAlike 35 = .ok (.aload_n 0, 1) := by decide +kernel
theorem dX9_areAlike_36 : decode cX9_areAlike 36 = .ok (.getfield 7, 3) := by decide +kernel
theorem dX9_areAlike_39 : decode cX9_areAlike 39 = .ok (.bipush 28, 2) := by decide +kernel
theorem dX9_areAlike_41 : decode cX9_areAlike 41 = .ok (.iaload, 1) := by decide +kernel
theorem dX9_areAlike_42 : decode cX9_areAlike 42 = .ok (.if_icmp .ne 24, 3) := by decide +kernel
theorem dX9_areAlike_45 : decode cX9_areAlike 45 = .ok (.aload_n 0, 1) := by decide +kernel
theorem dX9_areAlike_46 : decode cX9_areAlike 46 = .ok (.getfield 7, 3) := by decide +kernel
theorem dX9_areAlike_49 : decode cX9_areAlike 49 = .ok (.bipush 26, 2) := by decide +kernel
theorem dX9_areAlike_51 : decode cX9_areAlike 51 = .ok (.iaload, 1) := by decide +kernel
theorem dX9_areAlike_52 : decode cX9_areAlike 52 = .ok (.aload_n 0, 1) := by decide +kernel
theorem dX9_areAlike_53 : decode cX9_areAlike 53 = .ok (.getfield 7, 3) := by decide +kernel
theorem dX9_areAlike_56 : decode cX9_areAlike 56 = .ok (.bipush 29, 2) := by decide +kernel
theorem dX9_areAlike_58 : decode cX9_areAlike 58 = .ok (.iaload, 1) := by decide +kernel
theorem dX9_areAlike_59 : decode cX9_areAlike 59 = .ok (.if_icmp .ne 7, 3) := by decide +kernel
theorem dX9_areAlike_62 : decode cX9_areAlike 62 = .ok (.iconst 1, 1) := by decide +kernel
theorem dX9_areAlike_63 : decode cX9_areAlike 63 = .ok (.goto 4, 3) := by decide +kernel
theorem dX9_areAlike_66 : decode cX9_areAlike 66 = .ok (.iconst 0, 1) := by decide +kernel
theorem dX9_areAlike_67 : decode cX9_areAlike 67 = .ok (.ireturn, 1) := by decide +kernel
theorem dX9_visitorGoes_0 : decode cX9_visitorGoes 0 = .ok (.aload_n 0, 1) := by decide +kernel
theorem dX9_visitorGoes_1 : decode cX9_visitorGoes 1 = .ok (.getfield 7, 3) := by decide +kernel
theorem dX9_visitorGoes_4 : decode cX9_visitorGoes 4 = .ok (.bipush 25, 2) := by decide +kernel
theorem dX9_visitorGoes_6 : decode cX9_visitorGoes 6 = .ok (.iconst (-1), 1) := by decide +kernel
theorem dX9_visitorGoes_7 : decode cX9_visitorGoes 7 = .ok (.iastore, 1) := by decide +kernel
theorem dX9_visitorGoes_8 : decode cX9_visitorGoes 8 = .ok (.aload_n 0, 1) := by decide +kernel
theorem dX9_visitorGoes_9 : decode cX9_visitorGoes 9 = .ok (.iconst 3, 1) := by decide +kernel
theorem dX9_visitorGoes_10 : decode cX9_visitorGoes 10 = .ok (.iconst 4, 1) := by decide +kernel
theorem dX9_visitorGoes_11 : decode cX9_visitorGoes 11 = .ok (.iload_n 1, 1) := by decide +kernel
theorem dX9_visitorGoes_12 : decode cX9_visitorGoes 12 = .ok (.iload_n 2, 1) := by decide +kernel
theorem dX9_visitorGoes_13 : decode cX9_visitorGoes 13 = .ok (.invokevirtual 80, 3) := by decide +kernel
theorem dX9_visitorGoes_16 : decode cX9_visitorGoes 16 = .ok (.return_, 1) := by decide +kernel
theorem dX9_watchesWaves_0 : decode cX9_watchesWaves 0 = .ok (.aload_n 0, 1) := by decide +kernel
theorem dX9_watchesWaves_1 : decode cX9_watchesWaves 1 = .ok (.getfield 7, 3) := by decide +kernel
theorem dX9_watchesWaves_4 : decode cX9_watchesWaves 4 = .ok (.bipush 25, 2) := by decide +kernel
theorem dX9_watchesWaves_6 : decode cX9_watchesWaves 6 = .ok (.iaload, 1) := by decide +kernel
theorem dX9_watchesWaves_7 : decode cX9_watchesWaves 7 = .ok (.iload_n 1, 1) := by decide +kernel
theorem dX9_watchesWaves_8 : decode cX9_watchesWaves 8 = .ok (.if_icmp .eq 4, 3) := by decide +kernel
theorem dX9_watchesWaves_11 : decode cX9_watchesWaves 11 = .ok (.return_, 1) := by decide +kernel
theorem dX9_watchesWaves_12 : decode cX9_watchesWaves 12 = .ok (.iload_n 1, 1) := by decide +kernel
theorem dX9_watchesWaves_13 : decode cX9_watchesWaves 13 = .ok (.ifCond .le 53, 3) := by decide +kernel
theorem dX9_watchesWaves_16 : decode cX9_watchesWaves 16 = .ok (.aload_n 0, 1) := by decide +kernel
theorem dX9_watchesWaves_17 : decode cX9_watchesWaves 17 = .ok (.getfield 7, 3) := by decide +kernel
theorem dX9_watchesWaves_20 : decode cX9_watchesWaves 20 = .ok (.bipush 26, 2) := by decide +kernel
theorem dX9_watchesWaves_22 : decode cX9_watchesWaves 22 = .ok (.dup2, 1) := by decide +kernel
theorem dX9_watchesWaves_23 : decode cX9_watchesWaves 23 = .ok (.iaload, 1) := by decide +kernel
theorem dX9_watchesWaves_24 : decode cX9_watchesWaves 24 = .ok (.aload_n 0, 1) := by decide +kernel
theorem dX9_watchesWaves_25 : decode cX9_watchesWaves 25 = .ok (.iload_n 1, 1) := by decide +kernel
theorem dX9_watchesWaves_26 : decode cX9_watchesWaves 26 = .ok (.bipush 16, 2) := by decide +kernel
theorem dX9_watchesWaves_28 : decode cX9_watchesWaves 28 = .ok (.invokevirtual 47, 3) := by decide +kernel
theorem dX9_watchesWaves_31 : decode cX9_watchesWaves 31 = .ok (.iadd, 1) := by decide +kernel
theorem dX9_watchesWaves_32 : decode cX9_watchesWaves 32 = .ok (.iastore, 1) := by decide +kernel
theorem dX9_watchesWaves_33 : decode cX9_watchesWaves 33 = .ok (.aload_n 0, 1) := by decide +kernel
theorem dX9_watchesWaves_34 : decode cX9_watchesWaves 34 = .ok (.getfield 7, 3) := by decide +kernel
theorem dX9_watchesWaves_37 : decode cX9_watchesWaves 37 = .ok (.bipush 27, 2) := by decide +kernel
theorem dX9_watchesWaves_39 : decode cX9_watchesWaves 39 = .ok (.dup2, 1) := by decide +kernel
theorem dX9_watchesWaves_40 : decode cX9_watchesWaves 40 = .ok (.iaload, 1) := by decide +kernel
theorem dX9_watchesWaves_41 : decode cX9_watchesWaves 41 = .ok (.aload_n 0, 1) := by decide +kernel
theorem dX9_watchesWaves_42 : decode cX9_watchesWaves 42 = .ok (.iload_n 1, 1) := by decide +kernel
theorem dX9_watchesWaves_43 : decode cX9_watchesWaves 43 = .ok (.bipush 24, 2) := by decide +kernel
theorem dX9_watchesWaves_45 : decode cX9_watchesWaves 45 = .ok (.invokevirtual 47, 3) := by decide +kernel
theorem dX9_watchesWaves_48 : decode cX9_watchesWaves 48 = .ok (.iadd, 1) := by decide +kernel
theorem dX9_watchesWaves_49 : decode cX9_watchesWaves 49 = .ok (.iastore, 1) := by decide +kernel
theorem dX9_watchesWaves_50 : decode cX9_watchesWaves 50 = .ok (.aload_n 0, 1) := by decide +kernel
theorem dX9_watchesWaves_51 : decode cX9_watchesWaves 51 = .ok (.iload_n 1, 1) := by decide +kernel
theorem dX9_watchesWaves_52 : decode cX9_watchesWaves 52 = .ok (.iload_n 1, 1) := by decide +kernel
theorem dX9_watchesWaves_53 : decode cX9_watchesWaves 53 = .ok (.iconst 1, 1) := by decide +kernel
theorem dX9_watchesWaves_54 : decode cX9_watchesWaves 54 = .ok (.iadd, 1) := by decide +kernel
theorem dX9_watchesWaves_55 : decode cX9_watchesWaves 55 = .ok (.aload_n 0, 1) := by decide +kernel
theorem dX9_watchesWaves_56 : decode cX9_watchesWaves 56 = .ok (.getfield 7, 3) := by decide +kernel
theorem dX9_watchesWaves_59 : decode cX9_watchesWaves 59 = .ok (.iconst 0, 1) := by decide +kernel
theorem dX9_watchesWaves_60 : decode cX9_watchesWaves 60 = .ok (.iaload, 1) := by decide +kernel
theorem dX9_watchesWaves_61 : decode cX9_watchesWaves 61 = .ok (.irem, 1) := by decide +kernel
theorem dX9_watchesWaves_62 : decode cX9_watchesWaves 62 = .ok (.invokevirtual 102, 3) := by decide +kernel
theorem dX9_watchesWaves_65 : decode cX9_watchesWaves 65 = .ok (.return_, 1) := by decide +kernel
theorem dX9_watchesWaves_66 : decode cX9_watchesWaves 66 = .ok (.aload_n 0, 1) := by decide +kernel
theorem dX9_watchesWaves_67 : decode cX9_watchesWaves 67 = .ok (.getfield 7, 3) := by decide +kernel
theorem dX9_watchesWaves_70 : decode cX9_watchesWaves 70 = .ok (.bipush 31, 2) := by decide +kernel
theorem dX9_watchesWaves_72 : decode cX9_watchesWaves 72 = .ok (.iaload, 1) := by decide +kernel
theorem dX9_watchesWaves_73 : decode cX9_watchesWaves 73 = .ok (.iconst 1, 1) := by decide +kernel
theorem dX9_watchesWaves_74 : decode cX9_watchesWaves 74 = .ok (.if_icmp .ne 7, 3) := by decide +kernel
theorem dX9_watchesWaves_77 : decode cX9_watchesWaves 77 = .ok (.iconst 1, 1) := by decide +kernel
theorem dX9_watchesWaves_78 : decode cX9_watchesWaves 78 = .ok (.goto 4, 3) := by decide +kernel
theorem dX9_watchesWaves_81 : decode cX9_watchesWaves 81 = .ok (.iconst 0, 1) := by decide +kernel
theorem dX9_watchesWaves_82 : decode cX9_watchesWaves 82 = .ok (.istore_n 2, 1) := by decide +kernel
theorem dX9_watchesWaves_83 : decode cX9_watchesWaves 83 = .ok (.iload_n 2, 1) := by decide +kernel
theorem dX9_watchesWaves_84 : decode cX9_watchesWaves 84 = .ok (.ifCond .ne 16, 3) := by decide +kernel
theorem dX9_watchesWaves_87 : decode cX9_watchesWaves 87 = .ok (.aload_n 0, 1) := by decide +kernel
theorem dX9_watchesWaves_88 : decode cX9_watchesWaves 88 = .ok (.invokevirtual 105, 3) := by decide +kernel
theorem dX9_watchesWaves_91 : decode cX9_watchesWaves 91 = .ok (.ifCond .eq 9, 3) := by decide +kernel
theorem dX9_watchesWaves_94 : decode cX9_watchesWaves 94 = .ok (.aload_n 0, 1) := by decide +kernel
theorem dX9_watchesWaves_95 : decode cX9_watchesWaves 95 = .ok (.iconst 3, 1) := by decide +kernel
theorem dX9_watchesWaves_96 : decode cX9_watchesWaves 96 = .ok (.invokevirtual 96, 3) := by decide +kernel
theorem dX9_watchesWaves_99 : decode cX9_watchesWaves 99 = .ok (.return_, 1) := by decide +kernel
theorem dX9_watchesWaves_100 : decode cX9_watchesWaves 100 = .ok (.iload_n 2, 1) := by decide +kernel
theorem dX9_watchesWaves_101 : decode cX9_watchesWaves 101 = .ok (.ifCond .ne 39, 3) := by decide +kernel
theorem dX9_watchesWaves_104 : decode cX9_watchesWaves 104 = .ok (.aload_n 0, 1) := by decide +kernel
theorem dX9_watchesWaves_105 : decode cX9_watchesWaves 105 = .ok (.getfield 7, 3) := by decide +kernel
theorem dX9_watchesWaves_108 : decode cX9_watchesWaves 108 = .ok (.bipush 28, 2) := by decide +kernel
theorem dX9_watchesWaves_110 : decode cX9_watchesWaves 110 = .ok (.aload_n 0, 1) := by decide +kernel
theorem dX9_watchesWaves_111 : decode cX9_watchesWaves 111 = .ok (.getfield 7, 3) := by decide +kernel
theorem dX9_watchesWaves_114 : decode cX9_watchesWaves 114 = .ok (.bipush 26, 2) := by decide +kernel
theorem dX9_watchesWaves_116 : decode cX9_watchesWaves 116 = .ok (.iaload, 1) := by decide +kernel
theorem dX9_watchesWaves_117 : decode cX9_watchesWaves 117 = .ok (.iastore, 1) := by decide +kernel
theorem dX9_watchesWaves_118 : decode cX9_watchesWaves 118 = .ok (.aload_n 0, 1) := by decide +kernel
theorem dX9_watchesWaves_119 : decode cX9_watchesWaves 119 = .ok (.getfield 7, 3) := by decide +kernel
theorem dX9_watchesWaves_122 : decode cX9_watchesWaves 122 = .ok (.bipush 29, 2) := by decide +kernel
theorem dX9_watchesWaves_124 : decode cX9_watchesWaves 124 = .ok (.aload_n 0, 1) := by decide +kernel
theorem dX9_watchesWaves_125 : decode cX9_watchesWaves 125 = .ok (.getfield 7, 3) := by decide +kernel
theorem dX9_watchesWaves_128 : decode cX9_watchesWaves 128 = .ok (.bipush 27, 2) := by decide +kernel
theorem dX9_watchesWaves_130 : decode cX9_watchesWaves 130 = .ok (.iaload, 1) := by decide +kernel
theorem dX9_watchesWaves_131 : decode cX9_watchesWaves 131 = .ok (.iastore, 1) := by decide +kernel
theorem dX9_watchesWaves_132 : decode cX9_watchesWaves 132 = .ok (.aload_n 0, 1) := by decide +kernel
theorem dX9_watchesWaves_133 : decode cX9_watchesWaves 133 = .ok (.getfield 7, 3) := by decide +kernel
theorem dX9_watchesWaves_136 : decode cX9_watchesWaves 136 = .ok (.bipush 30, 2) := by decide +kernel
theorem dX9_watchesWaves_138 : decode cX9_watchesWaves 138 = .ok (.iconst 1, 1) := by decide +kernel
theorem dX9_watchesWaves_139 : decode cX9_watchesWaves 139 = .ok (.iastore, 1) := by decide +kernel
theorem dX9_watchesWaves_140 : decode cX9_watchesWaves 140 = .ok (.aload_n 0, 1) := by decide +kernel
theorem dX9_watchesWaves_141 : decode cX9_watchesWaves 141 = .ok (.getfield 7, 3) := by decide +kernel
theorem dX9_watchesWaves_144 : decode cX9_watchesWaves 144 = .ok (.bipush 31, 2) := by decide +kernel
theorem dX9_watchesWaves_146 : decode cX9_watchesWaves 146 = .ok (.iconst 0, 1) := by decide +kernel
theorem dX9_watchesWaves_147 : decode cX9_watchesWaves 147 = .ok (.iastore, 1) := by decide +kernel
theorem dX9_watchesWaves_148 : decode cX9_watchesWaves 148 = .ok (.aload_n 0, 1) := by decide +kernel
theorem dX9_watchesWaves_149 : decode cX9_watchesWaves 149 = .ok (.getfield 7, 3) := by decide +kernel
theorem dX9_watchesWaves_152 : decode cX9_watchesWaves 152 = .ok (.bipush 26, 2) := by decide +kernel
theorem dX9_watchesWaves_154 : decode cX9_watchesWaves 154 = .ok (.aload_n 0, 1) := by decide +kernel
theorem dX9_watchesWaves_155 : decode cX9_watchesWaves 155 = .ok (.iconst 0, 1) := by decide +kernel
theorem dX9_watchesWaves_156 : decode cX9_watchesWaves 156 = .ok (.bipush 16, 2) := by decide +kernel
theorem dX9_watchesWaves_158 : decode cX9_watchesWaves 158 = .ok (.invokevirtual 47, 3) := by decide +kernel
theorem dX9_watchesWaves_161 : decode cX9_watchesWaves 161 = .ok (.iastore, 1) := by decide +kernel
theorem dX9_watchesWaves_162 : decode cX9_watchesWaves 162 = .ok (.aload_n 0, 1) := by decide +kernel
theorem dX9_watchesWaves_163 : decode cX9_watchesWaves 163 = .ok (.getfield 7, 3) := by decide +kernel
theorem dX9_watchesWaves_166 : decode cX9_watchesWaves 166 = .ok (.bipush 27, 2) := by decide +kernel
theorem dX9_watchesWaves_168 : decode cX9_watchesWaves 168 = .ok (.aload_n 0, 1) := by decide +kernel
theorem dX9_watchesWaves_169 : decode cX9_watchesWaves 169 = .ok (.iconst 0, 1) := by decide +kernel
theorem dX9_watchesWaves_170 : decode cX9_watchesWaves 170 = .ok (.bipush 24, 2) := by decide +kernel
theorem dX9_watchesWaves_172 : decode cX9_watchesWaves 172 = .ok (.invokevirtual 47, 3) := by decide +kernel
theorem dX9_watchesWaves_175 : decode cX9_watchesWaves 175 = .ok (.iastore, 1) := by decide +kernel
theorem dX9_watchesWaves_176 : decode cX9_watchesWaves 176 = .ok (.aload_n 0, 1) := by decide +kernel
theorem dX9_watchesWaves_177 : decode cX9_watchesWaves 177 = .ok (.getfield 7, 3) := by decide +kernel
theorem dX9_watchesWaves_180 : decode cX9_watchesWaves 180 = .ok (.bipush 32, 2) := by decide +kernel
theorem dX9_watchesWaves_182 : decode cX9_watchesWaves 182 = .ok (.dup2, 1) := by decide +kernel
theorem dX9_watchesWaves_183 : decode cX9_watchesWaves 183 = .ok (.iaload, 1) := by decide +kernel
theorem dX9_watchesWaves_184 : decode cX9_watchesWaves 184 = .ok (.iconst 1, 1) := by decide +kernel
theorem dX9_watchesWaves_185 : decode cX9_watchesWaves 185 = .ok (.iadd, 1) := by decide +kernel
theorem dX9_watchesWaves_186 : decode cX9_watchesWaves 186 = .ok (.iastore, 1) := by decide +kernel
theorem dX9_watchesWaves_187 : decode cX9_watchesWaves 187 = .ok (.aload_n 0, 1) := by decide +kernel
theorem dX9_watchesWaves_188 : decode cX9_watchesWaves 188 = .ok (.bipush 6, 2) := by decide +kernel
theorem dX9_watchesWaves_190 : decode cX9_watchesWaves 190 = .ok (.iconst 3, 1) := by decide +kernel
theorem dX9_watchesWaves_191 : decode cX9_watchesWaves 191 = .ok (.invokevirtual 51, 3) := by decide +kernel
theorem dX9_watchesWaves_194 : decode cX9_watchesWaves 194 = .ok (.aload_n 0, 1) := by decide +kernel
theorem dX9_watchesWaves_195 : decode cX9_watchesWaves 195 = .ok (.iconst 0, 1) := by decide +kernel
theorem dX9_watchesWaves_196 : decode cX9_watchesWaves 196 = .ok (.iconst 1, 1) := by decide +kernel
theorem dX9_watchesWaves_197 : decode cX9_watchesWaves 197 = .ok (.invokevirtual 102, 3) := by decide +kernel
theorem dX9_watchesWaves_200 : decode cX9_watchesWaves 200 = .ok (.return_, 1) := by decide +kernel
theorem dX9_watches_0 : decode cX9_watches 0 = .ok (.aload_n 0, 1) := by decide +kernel
theorem dX9_watches_1 : decode cX9_watches 1 = .ok (.iconst 0, 1) := by decide +kernel
theorem dX9_watches_2 : decode cX9_watches 2 = .ok (.invokevirtual 108, 3) := by decide +kernel
theorem dX9_watches_5 : decode cX9_watches 5 = .ok (.ifCond .ne 8, 3) := by decide +kernel
theorem dX9_watches_8 : decode cX9_watches 8 = .ok (.aload_n 0, 1) := by decide +kernel
theorem dX9_watches_9 : decode cX9_watches 9 = .ok (.iload_n 1, 1) := by decide +kernel
theorem dX9_watches_10 : decode cX9_watches 10 = .ok (.invokevirtual 111, 3) := by decide +kernel
theorem dX9_watches_13 : decode cX9_watches 13 = .ok (.aload_n 0, 1) := by decide +kernel
theorem dX9_watches_14 : decode cX9_watches 14 = .ok (.iconst 1, 1) := by decide +kernel
theorem dX9_watches_15 : decode cX9_watches 15 = .ok (.invokevirtual 108, 3) := by decide +kernel
theorem dX9_watches_18 : decode cX9_watches 18 = .ok (.ifCond .ne 8, 3) := by decide +kernel
theorem dX9_watches_21 : decode cX9_watches 21 = .ok (.aload_n 0, 1) := by decide +kernel
theorem dX9_watches_22 : decode cX9_watches 22 = .ok (.iload_n 1, 1) := by decide +kernel
theorem dX9_watches_23 : decode cX9_watches 23 = .ok (.invokevirtual 114, 3) := by decide +kernel
theorem dX9_watches_26 : decode cX9_watches 26 = .ok (.aload_n 0, 1) := by decide +kernel
theorem dX9_watches_27 : decode cX9_watches 27 = .ok (.iconst 2, 1) := by decide +kernel
theorem dX9_watches_28 : decode cX9_watches 28 = .ok (.invokevirtual 108, 3) := by decide +kernel
theorem dX9_watches_31 : decode cX9_watches 31 = .ok (.ifCond .ne 8, 3) := by decide +kernel
theorem dX9_watches_34 : decode cX9_watches 34 = .ok (.aload_n 0, 1) := by decide +kernel
theorem dX9_watches_35 : decode cX9_watches 35 = .ok (.iload_n 1, 1) := by decide +kernel
theorem dX9_watches_36 : decode cX9_watches 36 = .ok (.invokevirtual 117, 3) := by decide +kernel
theorem dX9_watches_39 : decode cX9_watches 39 = .ok (.aload_n 0, 1) := by decide +kernel
theorem dX9_watches_40 : decode cX9_watches 40 = .ok (.iconst 3, 1) := by decide +kernel
theorem dX9_watches_41 : decode cX9_watches 41 = .ok (.invokevirtual 108, 3) := by decide +kernel
theorem dX9_watches_44 : decode cX9_watches 44 = .ok (.ifCond .ne 8, 3) := by decide +kernel
theorem dX9_watches_47 : decode cX9_watches 47 = .ok (.aload_n 0, 1) := by decide +kernel
theorem dX9_watches_48 : decode cX9_watches 48 = .ok (.iload_n 1, 1) := by decide +kernel
theorem dX9_watches_49 : decode cX9_watches 49 = .ok (.invokevirtual 120, 3) := by decide +kernel
theorem dX9_watches_52 : decode cX9_watches 52 = .ok (.return_, 1) := by decide +kernel
theorem dX9_onTheirWay_0 : decode cX9_onTheirWay 0 = .ok (.iconst 0, 1) := by decide +kernel
theorem dX9_onTheirWay_1 : decode cX9_onTheirWay 1 = .ok (.istore_n 2, 1) := by decide +kernel
theorem dX9_onTheirWay_2 : decode cX9_onTheirWay 2 = .ok (.iconst 0, 1) := by decide +kernel
theorem dX9_onTheirWay_3 : decode cX9_onTheirWay 3 = .ok (.istore_n 3, 1) := by decide +kernel
theorem dX9_onTheirWay_4 : decode cX9_onTheirWay 4 = .ok (.iload_n 3, 1) := by decide +kernel
theorem dX9_onTheirWay_5 : decode cX9_onTheirWay 5 = .ok (.aload_n 0, 1) := by decide +kernel
theorem dX9_onTheirWay_6 : decode cX9_onTheirWay 6 = .ok (.getfield 7, 3) := by decide +kernel
theorem dX9_onTheirWay_9 : decode cX9_onTheirWay 9 = .ok (.iconst 2, 1) := by decide +kernel
theorem dX9_onTheirWay_10 : decode cX9_onTheirWay 10 = .ok (.iaload, 1) := by decide +kernel
theorem dX9_onTheirWay_11 : decode cX9_onTheirWay 11 = .ok (.if_icmp .ge 35, 3) := by decide +kernel
theorem dX9_onTheirWay_14 : decode cX9_onTheirWay 14 = .ok (.iload_n 2, 1) := by decide +kernel
theorem dX9_onTheirWay_15 : decode cX9_onTheirWay 15 = .ok (.aload_n 0, 1) := by decide +kernel
theorem dX9_onTheirWay_16 : decode cX9_onTheirWay 16 = .ok (.iload_n 3, 1) := by decide +kernel
theorem dX9_onTheirWay_17 : decode cX9_onTheirWay 17 = .ok (.iconst 0, 1) := by decide +kernel
theorem dX9_onTheirWay_18 : decode cX9_onTheirWay 18 = .ok (.invokevirtual 87, 3) := by decide +kernel
theorem dX9_onTheirWay_21 : decode cX9_onTheirWay 21 = .ok (.ifCond .ne 7, 3) := by decide +kernel
theorem dX9_onTheirWay_24 : decode cX9_onTheirWay 24 = .ok (.iconst 1, 1) := by decide +kernel
theorem dX9_onTheirWay_25 : decode cX9_onTheirWay 25 = .ok (.goto 4, 3) := by decide +kernel
theorem dX9_onTheirWay_28 : decode cX9_onTheirWay 28 = .ok (.iconst 0, 1) := by decide +kernel
theorem dX9_onTheirWay_29 : decode cX9_onTheirWay 29 = .ok (.iload_n 1, 1) := by decide +kernel
theorem dX9_onTheirWay_30 : decode cX9_onTheirWay 30 = .ok (.if_icmp .ne 7, 3) := by decide +kernel
theorem dX9_onTheirWay_33 : decode cX9_onTheirWay 33 = .ok (.iconst 1, 1) := by decide +kernel
theorem dX9_onTheirWay_34 : decode cX9_onTheirWay 34 = .ok (.goto 4, 3) := by decide +kernel
theorem dX9_onTheirWay_37 : decode cX9_onTheirWay 37 = .ok (.iconst 0, 1) := by decide +kernel
theorem dX9_onTheirWay_38 : decode cX9_onTheirWay 38 = .ok (.iadd, 1) := by decide +kernel
theorem dX9_onTheirWay_39 : decode cX9_onTheirWay 39 = .ok (.istore_n 2, 1) := by decide +kernel
theorem dX9_onTheirWay_40 : decode cX9_onTheirWay 40 = .ok (.iinc 3 1, 3) := by decide +kernel
theorem dX9_onTheirWay_43 : decode cX9_onTheirWay 43 = .ok (.goto (-39), 3) := by decide +kernel
theorem dX9_onTheirWay_46 : decode cX9_onTheirWay 46 = .ok (.iload_n 2, 1) := by decide +kernel
theorem dX9_onTheirWay_47 : decode cX9_onTheirWay 47 = .ok (.ireturn, 1) := by decide +kernel
theorem dX9_busy_0 : decode cX9_busy 0 = .ok (.iconst 0, 1) := by decide +kernel
theorem dX9_busy_1 : decode cX9_busy 1 = .ok (.istore_n 1, 1) := by decide +kernel
theorem dX9_busy_2 : decode cX9_busy 2 = .ok (.iconst 0, 1) := by decide +kernel
theorem dX9_busy_3 : decode cX9_busy 3 = .ok (.istore_n 2, 1) := by decide +kernel
theorem dX9_busy_4 : decode cX9_busy 4 = .ok (.iload_n 2, 1) := by decide +kernel
theorem dX9_busy_5 : decode cX9_busy 5 = .ok (.aload_n 0, 1) := by decide +kernel
theorem dX9_busy_6 : decode cX9_busy 6 = .ok (.getfield 7, 3) := by decide +kernel
theorem dX9_busy_9 : decode cX9_busy 9 = .ok (.iconst 0, 1) := by decide +kernel
theorem dX9_busy_10 : decode cX9_busy 10 = .ok (.iaload, 1) := by decide +kernel
theorem dX9_busy_11 : decode cX9_busy 11 = .ok (.if_icmp .ge 27, 3) := by decide +kernel
theorem dX9_busy_14 : decode cX9_busy 14 = .ok (.iload_n 1, 1) := by decide +kernel
theorem dX9_busy_15 : decode cX9_busy 15 = .ok (.aload_n 0, 1) := by decide +kernel
theorem dX9_busy_16 : decode cX9_busy 16 = .ok (.iload_n 2, 1) := by decide +kernel
theorem dX9_busy_17 : decode cX9_busy 17 = .ok (.invokevirtual 76, 3) := by decide +kernel
theorem dX9_busy_20 : decode cX9_busy 20 = .ok (.ifCond .eq 7, 3) := by decide +kernel
theorem dX9_busy_23 : decode cX9_busy 23 = .ok (.iconst 0, 1) := by decide +kernel
theorem dX9_busy_24 : decode cX9_busy 24 = .ok (.goto 6, 3) := by decide +kernel
theorem dX9_busy_27 : decode cX9_busy 27 = .ok (.iconst 1, 1) := by decide +kernel
theorem dX9_busy_28 : decode cX9_busy 28 = .ok (.iload_n 2, 1) := by decide +kernel
theorem dX9_busy_29 : decode cX9_busy 29 = .ok (.ishl, 1) := by decide +kernel
theorem dX9_busy_30 : decode cX9_busy 30 = .ok (.ior, 1) := by decide +kernel
theorem dX9_busy_31 : decode cX9_busy 31 = .ok (.istore_n 1, 1) := by decide +kernel
theorem dX9_busy_32 : decode cX9_busy 32 = .ok (.iinc 2 1, 3) := by decide +kernel
theorem dX9_busy_35 : decode cX9_busy 35 = .ok (.goto (-31), 3) := by decide +kernel
theorem dX9_busy_38 : decode cX9_busy 38 = .ok (.iload_n 1, 1) := by decide +kernel
theorem dX9_busy_39 : decode cX9_busy 39 = .ok (.ireturn, 1) := by decide +kernel
theorem dX9_isWorking_0 : decode cX9_isWorking 0 = .ok (.aload_n 0, 1) := by decide +kernel
theorem dX9_isWorking_1 : decode cX9_isWorking 1 = .ok (.invokevirtual 123, 3) := by decide +kernel
theorem dX9_isWorking_4 : decode cX9_isWorking 4 = .ok (.ifCond .ne 11, 3) := by decide +kernel
theorem dX9_isWorking_7 : decode cX9_isWorking 7 = .ok (.aload_n 0, 1) := by decide +kernel
theorem dX9_isWorking_8 : decode cX9_isWorking 8 = .ok (.iconst 1, 1) := by decide +kernel
theorem dX9_isWorking_9 : decode cX9_isWorking 9 = .ok (.invokevirtual 127, 3) := by decide +kernel
theorem dX9_isWorking_12 : decode cX9_isWorking 12 = .ok (.ifCond .le 7, 3) := by decide +kernel
theorem dX9_isWorking_15 : decode cX9_isWorking 15 = .ok (.iconst 1, 1) := by decide +kernel
theorem dX9_isWorking_16 : decode cX9_isWorking 16 = .ok (.goto 4, 3) := by decide +kernel
theorem dX9_isWorking_19 : decode cX9_isWorking 19 = .ok (.iconst 0, 1) := by decide +kernel
theorem dX9_isWorking_20 : decode cX9_isWorking 20 = .ok (.ireturn, 1) := by decide +kernel
theorem dX9_sumOf_0 : decode cX9_sumOf 0 = .ok (.iconst 0, 1) := by decide +kernel
theorem dX9_sumOf_1 : decode cX9_sumOf 1 = .ok (.istore_n 2, 1) := by decide +kernel
theorem dX9_sumOf_2 : decode cX9_sumOf 2 = .ok (.iconst 0, 1) := by decide +kernel
theorem dX9_sumOf_3 : decode cX9_sumOf 3 = .ok (.istore_n 3, 1) := by decide +kernel
theorem dX9_sumOf_4 : decode cX9_sumOf 4 = .ok (.iload_n 3, 1) := by decide +kernel
theorem dX9_sumOf_5 : decode cX9_sumOf 5 = .ok (.aload_n 0, 1) := by decide +kernel
theorem dX9_sumOf_6 : decode cX9_sumOf 6 = .ok (.getfield 7, 3) := by decide +kernel
theorem dX9_sumOf_9 : decode cX9_sumOf 9 = .ok (.iconst 0, 1) := by decide +kernel
theorem dX9_sumOf_10 : decode cX9_sumOf 10 = .ok (.iaload, 1) := by decide +kernel
theorem dX9_sumOf_11 : decode cX9_sumOf 11 = .ok (.if_icmp .ge 18, 3) := by decide +kernel
theorem dX9_sumOf_14 : decode cX9_sumOf 14 = .ok (.iload_n 2, 1) := by decide +kernel
theorem dX9_sumOf_15 : decode cX9_sumOf 15 = .ok (.aload_n 0, 1) := by decide +kernel
theorem dX9_sumOf_16 : decode cX9_sumOf 16 = .ok (.iload_n 3, 1) := by decide +kernel
theorem dX9_sumOf_17 : decode cX9_sumOf 17 = .ok (.iload_n 1, 1) := by decide +kernel
theorem dX9_sumOf_18 : decode cX9_sumOf 18 = .ok (.invokevirtual 47, 3) := by decide +kernel
theorem dX9_sumOf_21 : decode cX9_sumOf 21 = .ok (.iadd, 1) := by decide +kernel
theorem dX9_sumOf_22 : decode cX9_sumOf 22 = .ok (.istore_n 2, 1) := by decide +kernel
theorem dX9_sumOf_23 : decode cX9_sumOf 23 = .ok (.iinc 3 1, 3) := by decide +kernel
theorem dX9_sumOf_26 : decode cX9_sumOf 26 = .ok (.goto (-22), 3) := by decide +kernel
theorem dX9_sumOf_29 : decode cX9_sumOf 29 = .ok (.iload_n 2, 1) := by decide +kernel
theorem dX9_sumOf_30 : decode cX9_sumOf 30 = .ok (.ireturn, 1) := by decide +kernel
theorem dX9_measures_0 : decode cX9_measures 0 = .ok (.aload_n 0, 1) := by decide +kernel
theorem dX9_measures_1 : decode cX9_measures 1 = .ok (.bipush 40, 2) := by decide +kernel
theorem dX9_measures_3 : decode cX9_measures 3 = .ok (.invokevirtual 131, 3) := by decide +kernel
theorem dX9_measures_6 : decode cX9_measures 6 = .ok (.istore_n 1, 1) := by decide +kernel
theorem dX9_measures_7 : decode cX9_measures 7 = .ok (.aload_n 0, 1) := by decide +kernel
theorem dX9_measures_8 : decode cX9_measures 8 = .ok (.getfield 7, 3) := by decide +kernel
theorem dX9_measures_11 : decode cX9_measures 11 = .ok (.bipush 16, 2) := by decide +kernel
theorem dX9_measures_13 : decode cX9_measures 13 = .ok (.iload_n 1, 1) := by decide +kernel
theorem dX9_measures_14 : decode cX9_measures 14 = .ok (.aload_n 0, 1) := by decide +kernel
theorem dX9_measures_15 : decode cX9_measures 15 = .ok (.getfield 7, 3) := by decide +kernel
theorem dX9_measures_18 : decode cX9_measures 18 = .ok (.bipush 16, 2) := by decide +kernel
theorem dX9_measures_20 : decode cX9_measures 20 = .ok (.iaload, 1) := by decide +kernel
theorem dX9_measures_21 : decode cX9_measures 21 = .ok (.if_icmp .le 7, 3) := by decide +kernel
theorem dX9_measures_24 : decode cX9_measures 24 = .ok (.iload_n 1, 1) := by decide +kernel
theorem dX9_measures_25 : decode cX9_measures 25 = .ok (.goto 10, 3) := by decide +kernel
theorem dX9_measures_28 : decode cX9_measures 28 = .ok (.aload_n 0, 1) := by decide +kernel
theorem dX9_measures_29 : decode cX9_measures 29 = .ok (.getfield 7, 3) := by decide +kernel
theorem dX9_measures_32 : decode cX9_measures 32 = .ok (.bipush 16, 2) := by decide +kernel
theorem dX9_measures_34 : decode cX9_measures 34 = .ok (.iaload, 1) := by decide +kernel
theorem dX9_measures_35 : decode cX9_measures 35 = .ok (.iastore, 1) := by decide +kernel
theorem dX9_measures_36 : decode cX9_measures 36 = .ok (.iconst 0, 1) := by decide +kernel
theorem dX9_measures_37 : decode cX9_measures 37 = .ok (.istore_n 2, 1) := by decide +kernel
theorem dX9_measures_38 : decode cX9_measures 38 = .ok (.iload_n 2, 1) := by decide +kernel
theorem dX9_measures_39 : decode cX9_measures 39 = .ok (.bipush 64, 2) := by decide +kernel
theorem dX9_measures_41 : decode cX9_measures 41 = .ok (.if_icmp .ge 16, 3) := by decide +kernel
theorem dX9_measures_44 : decode cX9_measures 44 = .ok (.aload_n 0, 1) := by decide +kernel
theorem dX9_measures_45 : decode cX9_measures 45 = .ok (.getfield 19, 3) := by decide +kernel
theorem dX9_measures_48 : decode cX9_measures 48 = .ok (.iload_n 2, 1) := by decide +kernel
theorem dX9_measures_49 : decode cX9_measures 49 = .ok (.iconst 0, 1) := by decide +kernel
theorem dX9_measures_50 : decode cX9_measures 50 = .ok (.iastore, 1) := by decide +kernel
theorem dX9_measures_51 : decode cX9_measures 51 = .ok (.iinc 2 1, 3) := by decide +kernel
theorem dX9_measures_54 : decode cX9_measures 54 = .ok (.goto (-16), 3) := by decide +kernel
theorem dX9_measures_57 : decode cX9_measures 57 = .ok (.iconst 0, 1) := by decide +kernel
theorem dX9_measures_58 : decode cX9_measures 58 = .ok (.istore_n 2, 1) := by decide +kernel
theorem dX9_measures_59 : decode cX9_measures 59 = .ok (.iload_n 2, 1) := by decide +kernel
theorem dX9_measures_60 : decode cX9_measures 60 = .ok (.aload_n 0, 1) := by decide +kernel
theorem dX9_measures_61 : decode cX9_measures 61 = .ok (.getfield 7, 3) := by decide +kernel
theorem dX9_measures_64 : decode cX9_measures 64 = .ok (.iconst 2, 1) := by decide +kernel
theorem dX9_measures_65 : decode cX9_measures 65 = .ok (.iaload, 1) := by decide +kernel
theorem dX9_measures_66 : decode cX9_measures 66 = .ok (.if_icmp .ge 84, 3) := by decide +kernel
theorem dX9_measures_69 : decode cX9_measures 69 = .ok (.bipush 8, 2) := by decide +kernel
theorem dX9_measures_71 : decode cX9_measures 71 = .ok (.aload_n 0, 1) := by decide +kernel
theorem dX9_measures_72 : decode cX9_measures 72 = .ok (.iload_n 2, 1) := by decide +kernel
theorem dX9_measures_73 : decode cX9_measures 73 = .ok (.iconst 1, 1) := by decide +kernel
theorem dX9_measures_74 : decode cX9_measures 74 = .ok (.invokevirtual 87, 3) := by decide +kernel
theorem dX9_measures_77 : decode cX9_measures 77 = .ok (.imul, 1) := by decide +kernel
theorem dX9_measures_78 : decode cX9_measures 78 = .ok (.aload_n 0, 1) := by decide +kernel
theorem dX9_measures_79 : decode cX9_measures 79 = .ok (.iload_n 2, 1) := by decide +kernel
theorem dX9_measures_80 : decode cX9_measures 80 = .ok (.iconst 2, 1) := by decide +kernel
theorem dX9_measures_81 : decode cX9_measures 81 = .ok (.invokevirtual 87, 3) := by decide +kernel
theorem dX9_measures_84 : decode cX9_measures 84 = .ok (.iadd, 1) := by decide +kernel
theorem dX9_measures_85 : decode cX9_measures 85 = .ok (.istore_n 3, 1) := by decide +kernel
theorem dX9_measures_86 : decode cX9_measures 86 = .ok (.aload_n 0, 1) := by decide +kernel
theorem dX9_measures_87 : decode cX9_measures 87 = .ok (.getfield 19, 3) := by decide +kernel
theorem dX9_measures_90 : decode cX9_measures 90 = .ok (.iload_n 3, 1) := by decide +kernel
theorem dX9_measures_91 : decode cX9_measures 91 = .ok (.dup2, 1) := by decide +kernel
theorem dX9_measures_92 : decode cX9_measures 92 = .ok (.iaload, 1) := by decide +kernel
theorem dX9_measures_93 : decode cX9_measures 93 = .ok (.iconst 1, 1) := by decide +kernel
theorem dX9_measures_94 : decode cX9_measures 94 = .ok (.iadd, 1) := by decide +kernel
theorem dX9_measures_95 : decode cX9_measures 95 = .ok (.iastore, 1) := by decide +kernel
theorem dX9_measures_96 : decode cX9_measures 96 = .ok (.aload_n 0, 1) := by decide +kernel
theorem dX9_measures_97 : decode cX9_measures 97 = .ok (.getfield 7, 3) := by decide +kernel
theorem dX9_measures_100 : decode cX9_measures 100 = .ok (.sipush 440, 3) := by decide +kernel
theorem dX9_measures_103 : decode cX9_measures 103 = .ok (.iload_n 3, 1) := by decide +kernel
theorem dX9_measures_104 : decode cX9_measures 104 = .ok (.iadd, 1) := by decide +kernel
theorem dX9_measures_105 : decode cX9_measures 105 = .ok (.aload_n 0, 1) := by decide +kernel
theorem dX9_measures_106 : decode cX9_measures 106 = .ok (.getfield 19, 3) := by decide +kernel
theorem dX9_measures_109 : decode cX9_measures 109 = .ok (.iload_n 3, 1) := by decide +kernel
theorem dX9_measures_110 : decode cX9_measures 110 = .ok (.iaload, 1) := by decide +kernel
theorem dX9_measures_111 : decode cX9_measures 111 = .ok (.aload_n 0, 1) := by decide +kernel
theorem dX9_measures_112 : decode cX9_measures 112 = .ok (.getfield 7, 3) := by decide +kernel
theorem dX9_measures_115 : decode cX9_measures 115 = .ok (.sipush 440, 3) := by decide +kernel
theorem dX9_measures_118 : decode cX9_measures 118 = .ok (.iload_n 3, 1) := by decide +kernel
theorem dX9_measures_119 : decode cX9_measures 119 = .ok (.iadd, 1) := by decide +kernel
theorem dX9_measures_120 : decode cX9_measures 120 = .ok (.iaload, 1) := by decide +kernel
theorem dX9_measures_121 : decode cX9_measures 121 = .ok (.if_icmp .le 12, 3) := by decide +kernel
theorem dX9_measures_124 : decode cX9_measures 124 = .ok (.aload_n 0, 1) := by decide +kernel
theorem dX9_measures_125 : decode cX9_measures 125 = .ok (.getfield 19, 3) := by decide +kernel
theorem dX9_measures_128 : decode cX9_measures 128 = .ok (.iload_n 3, 1) := by decide +kernel
theorem dX9_measures_129 : decode cX9_measures 129 = .ok (.iaload, 1) := by decide +kernel
theorem dX9_measures_130 : decode cX9_measures 130 = .ok (.goto 13, 3) := by decide +kernel
theorem dX9_measures_133 : decode cX9_measures 133 = .ok (.aload_n 0, 1) := by decide +kernel
theorem dX9_measures_134 : decode cX9_measures 134 = .ok (.getfield 7, 3) := by decide +kernel
theorem dX9_measures_137 : decode cX9_measures 137 = .ok (.sipush 440, 3) := by decide +kernel
theorem dX9_measures_140 : decode cX9_measures 140 = .ok (.iload_n 3, 1) := by decide +kernel
theorem dX9_measures_141 : decode cX9_measures 141 = .ok (.iadd, 1) := by decide +kernel
theorem dX9_measures_142 : decode cX9_measures 142 = .ok (.iaload, 1) := by decide +kernel
theorem dX9_measures_143 : decode cX9_measures 143 = .ok (.iastore, 1) := by decide +kernel
theorem dX9_measures_144 : decode cX9_measures 144 = .ok (.iinc 2 1, 3) := by decide +kernel
theorem dX9_measures_147 : decode cX9_measures 147 = .ok (.goto (-88), 3) := by decide +kernel
theorem dX9_measures_150 : decode cX9_measures 150 = .ok (.return_, 1) := by decide +kernel
theorem dX9_ticks_0 : decode cX9_ticks 0 = .ok (.aload_n 0, 1) := by decide +kernel
theorem dX9_ticks_1 : decode cX9_ticks 1 = .ok (.getfield 7, 3) := by decide +kernel
theorem dX9_ticks_4 : decode cX9_ticks 4 = .ok (.iconst 4, 1) := by decide +kernel
theorem dX9_ticks_5 : decode cX9_ticks 5 = .ok (.dup2, 1) := by decide +kernel
theorem dX9_ticks_6 : decode cX9_ticks 6 = .ok (.iaload, 1) := by decide +kernel
theorem dX9_ticks_7 : decode cX9_ticks 7 = .ok (.iconst 1, 1) := by decide +kernel
theorem dX9_ticks_8 : decode cX9_ticks 8 = .ok (.iadd, 1) := by decide +kernel
theorem dX9_ticks_9 : decode cX9_ticks 9 = .ok (.iastore, 1) := by decide +kernel
theorem dX9_ticks_10 : decode cX9_ticks 10 = .ok (.aload_n 0, 1) := by decide +kernel
theorem dX9_ticks_11 : decode cX9_ticks 11 = .ok (.getfield 7, 3) := by decide +kernel
theorem dX9_ticks_14 : decode cX9_ticks 14 = .ok (.iconst 5, 1) := by decide +kernel
theorem dX9_ticks_15 : decode cX9_ticks 15 = .ok (.iaload, 1) := by decide +kernel
theorem dX9_ticks_16 : decode cX9_ticks 16 = .ok (.iconst (-1), 1) := by decide +kernel
theorem dX9_ticks_17 : decode cX9_ticks 17 = .ok (.if_icmp .ne 4, 3) := by decide +kernel
theorem dX9_ticks_20 : decode cX9_ticks 20 = .ok (.return_, 1) := by decide +kernel
theorem dX9_ticks_21 : decode cX9_ticks 21 = .ok (.aload_n 0, 1) := by decide +kernel
theorem dX9_ticks_22 : decode cX9_ticks 22 = .ok (.invokevirtual 135, 3) := by decide +kernel
theorem dX9_ticks_25 : decode cX9_ticks 25 = .ok (.iconst 0, 1) := by decide +kernel
theorem dX9_ticks_26 : decode cX9_ticks 26 = .ok (.istore_n 1, 1) := by decide +kernel
theorem dX9_ticks_27 : decode cX9_ticks 27 = .ok (.iload_n 1, 1) := by decide +kernel
theorem dX9_ticks_28 : decode cX9_ticks 28 = .ok (.aload_n 0, 1) := by decide +kernel
theorem dX9_ticks_29 : decode cX9_ticks 29 = .ok (.getfield 7, 3) := by decide +kernel
theorem dX9_ticks_32 : decode cX9_ticks 32 = .ok (.iconst 0, 1) := by decide +kernel
theorem dX9_ticks_33 : decode cX9_ticks 33 = .ok (.iaload, 1) := by decide +kernel
theorem dX9_ticks_34 : decode cX9_ticks 34 = .ok (.if_icmp .ge 32, 3) := by decide +kernel
theorem dX9_ticks_37 : decode cX9_ticks 37 = .ok (.aload_n 0, 1) := by decide +kernel
theorem dX9_ticks_38 : decode cX9_ticks 38 = .ok (.iload_n 1, 1) := by decide +kernel
theorem dX9_ticks_39 : decode cX9_ticks 39 = .ok (.invokevirtual 76, 3) := by decide +kernel
theorem dX9_ticks_42 : decode cX9_ticks 42 = .ok (.ifCond .ne 18, 3) := by decide +kernel
theorem dX9_ticks_45 : decode cX9_ticks 45 = .ok (.aload_n 0, 1) := by decide +kernel
theorem dX9_ticks_46 : decode cX9_ticks 46 = .ok (.iload_n 1, 1) := by decide +kernel
theorem dX9_ticks_47 : decode cX9_ticks 47 = .ok (.bipush 88, 2) := by decide +kernel
theorem dX9_ticks_49 : decode cX9_ticks 49 = .ok (.invokevirtual 47, 3) := by decide +kernel
theorem dX9_ticks_52 : decode cX9_ticks 52 = .ok (.ifCond .ne 8, 3) := by decide +kernel
theorem dX9_ticks_55 : decode cX9_ticks 55 = .ok (.aload_n 0, 1) := by decide +kernel
theorem dX9_ticks_56 : decode cX9_ticks 56 = .ok (.iload_n 1, 1) := by decide +kernel
theorem dX9_ticks_57 : decode cX9_ticks 57 = .ok (.invokevirtual 138, 3) := by decide +kernel
theorem dX9_ticks_60 : decode cX9_ticks 60 = .ok (.iinc 1 1, 3) := by decide +kernel
theorem dX9_ticks_63 : decode cX9_ticks 63 = .ok (.goto (-36), 3) := by decide +kernel
theorem dX9_ticks_66 : decode cX9_ticks 66 = .ok (.iconst 0, 1) := by decide +kernel
theorem dX9_ticks_67 : decode cX9_ticks 67 = .ok (.istore_n 1, 1) := by decide +kernel
theorem dX9_ticks_68 : decode cX9_ticks 68 = .ok (.iload_n 1, 1) := by decide +kernel
theorem dX9_ticks_69 : decode cX9_ticks 69 = .ok (.aload_n 0, 1) := by decide +kernel
theorem dX9_ticks_70 : decode cX9_ticks 70 = .ok (.getfield 7, 3) := by decide +kernel
theorem dX9_ticks_73 : decode cX9_ticks 73 = .ok (.iconst 0, 1) := by decide +kernel
theorem dX9_ticks_74 : decode cX9_ticks 74 = .ok (.iaload, 1) := by decide +kernel
theorem dX9_ticks_75 : decode cX9_ticks 75 = .ok (.if_icmp .ge 32, 3) := by decide +kernel
theorem dX9_ticks_78 : decode cX9_ticks 78 = .ok (.aload_n 0, 1) := by decide +kernel
theorem dX9_ticks_79 : decode cX9_ticks 79 = .ok (.iload_n 1, 1) := by decide +kernel
theorem dX9_ticks_80 : decode cX9_ticks 80 = .ok (.invokevirtual 76, 3) := by decide +kernel
theorem dX9_ticks_83 : decode cX9_ticks 83 = .ok (.ifCond .eq 18, 3) := by decide +kernel
theorem dX9_ticks_86 : decode cX9_ticks 86 = .ok (.aload_n 0, 1) := by decide +kernel
theorem dX9_ticks_87 : decode cX9_ticks 87 = .ok (.iload_n 1, 1) := by decide +kernel
theorem dX9_ticks_88 : decode cX9_ticks 88 = .ok (.bipush 88, 2) := by decide +kernel
theorem dX9_ticks_90 : decode cX9_ticks 90 = .ok (.invokevirtual 47, 3) := by decide +kernel
theorem dX9_ticks_93 : decode cX9_ticks 93 = .ok (.ifCond .ne 8, 3) := by decide +kernel
theorem dX9_ticks_96 : decode cX9_ticks 96 = .ok (.aload_n 0, 1) := by decide +kernel
theorem dX9_ticks_97 : decode cX9_ticks 97 = .ok (.iload_n 1, 1) := by decide +kernel
theorem dX9_ticks_98 : decode cX9_ticks 98 = .ok (.invokevirtual 141, 3) := by decide +kernel
theorem dX9_ticks_101 : decode cX9_ticks 101 = .ok (.iinc 1 1, 3) := by decide +kernel
theorem dX9_ticks_104 : decode cX9_ticks 104 = .ok (.goto (-36), 3) := by decide +kernel
theorem dX9_ticks_107 : decode cX9_ticks 107 = .ok (.aload_n 0, 1) := by decide +kernel
theorem dX9_ticks_108 : decode cX9_ticks 108 = .ok (.getfield 7, 3) := by decide +kernel
theorem dX9_ticks_111 : decode cX9_ticks 111 = .ok (.bipush 6, 2) := by decide +kernel
theorem dX9_ticks_113 : decode cX9_ticks 113 = .ok (.iaload, 1) := by decide +kernel
theorem dX9_ticks_114 : decode cX9_ticks 114 = .ok (.iconst (-1), 1) := by decide +kernel
theorem dX9_ticks_115 : decode cX9_ticks 115 = .ok (.if_icmp .ne 35, 3) := by decide +kernel
theorem dX9_ticks_118 : decode cX9_ticks 118 = .ok (.aload_n 0, 1) := by decide +kernel
theorem dX9_ticks_119 : decode cX9_ticks 119 = .ok (.invokevirtual 144, 3) := by decide +kernel
theorem dX9_ticks_122 : decode cX9_ticks 122 = .ok (.ifCond .ne 28, 3) := by decide +kernel
theorem dX9_ticks_125 : decode cX9_ticks 125 = .ok (.aload_n 0, 1) := by decide +kernel
theorem dX9_ticks_126 : decode cX9_ticks 126 = .ok (.getfield 7, 3) := by decide +kernel
theorem dX9_ticks_129 : decode cX9_ticks 129 = .ok (.bipush 6, 2) := by decide +kernel
theorem dX9_ticks_131 : decode cX9_ticks 131 = .ok (.aload_n 0, 1) := by decide +kernel
theorem dX9_ticks_132 : decode cX9_ticks 132 = .ok (.getfield 7, 3) := by decide +kernel
theorem dX9_ticks_135 : decode cX9_ticks 135 = .ok (.iconst 4, 1) := by decide +kernel
theorem dX9_ticks_136 : decode cX9_ticks 136 = .ok (.iaload, 1) := by decide +kernel
theorem dX9_ticks_137 : decode cX9_ticks 137 = .ok (.iastore, 1) := by decide +kernel
theorem dX9_ticks_138 : decode cX9_ticks 138 = .ok (.aload_n 0, 1) := by decide +kernel
theorem dX9_ticks_139 : decode cX9_ticks 139 = .ok (.iconst 3, 1) := by decide +kernel
theorem dX9_ticks_140 : decode cX9_ticks 140 = .ok (.aload_n 0, 1) := by decide +kernel
theorem dX9_ticks_141 : decode cX9_ticks 141 = .ok (.getfield 7, 3) := by decide +kernel
theorem dX9_ticks_144 : decode cX9_ticks 144 = .ok (.bipush 7, 2) := by decide +kernel
theorem dX9_ticks_146 : decode cX9_ticks 146 = .ok (.iaload, 1) := by decide +kernel
theorem dX9_ticks_147 : decode cX9_ticks 147 = .ok (.invokevirtual 51, 3) := by decide +kernel
theorem dX9_ticks_150 : decode cX9_ticks 150 = .ok (.iconst 0, 1) := by decide +kernel
theorem dX9_ticks_151 : decode cX9_ticks 151 = .ok (.istore_n 1, 1) := by decide +kernel
theorem dX9_ticks_152 : decode cX9_ticks 152 = .ok (.iload_n 1, 1) := by decide +kernel
theorem dX9_ticks_153 : decode cX9_ticks 153 = .ok (.aload_n 0, 1) := by decide +kernel
theorem dX9_ticks_154 : decode cX9_ticks 154 = .ok (.getfield 7, 3) := by decide +kernel
theorem dX9_ticks_157 : decode cX9_ticks 157 = .ok (.iconst 0, 1) := by decide +kernel
theorem dX9_ticks_158 : decode cX9_ticks 158 = .ok (.iaload, 1) := by decide +kernel
theorem dX9_ticks_159 : decode cX9_ticks 159 = .ok (.if_icmp .ge 27, 3) := by decide +kernel
theorem dX9_ticks_162 : decode cX9_ticks 162 = .ok (.aload_n 0, 1) := by decide +kernel
theorem dX9_ticks_163 : decode cX9_ticks 163 = .ok (.iload_n 1, 1) := by decide +kernel
theorem dX9_ticks_164 : decode cX9_ticks 164 = .ok (.bipush 88, 2) := by decide +kernel
theorem dX9_ticks_166 : decode cX9_ticks 166 = .ok (.invokevirtual 47, 3) := by decide +kernel
theorem dX9_ticks_169 : decode cX9_ticks 169 = .ok (.ifCond .le 11, 3) := by decide +kernel
theorem dX9_ticks_172 : decode cX9_ticks 172 = .ok (.aload_n 0, 1) := by decide +kernel
theorem dX9_ticks_173 : decode cX9_ticks 173 = .ok (.iload_n 1, 1) := by decide +kernel
theorem dX9_ticks_174 : decode cX9_ticks 174 = .ok (.bipush 88, 2) := by decide +kernel
theorem dX9_ticks_176 : decode cX9_ticks 176 = .ok (.iconst (-1), 1) := by decide +kernel
theorem dX9_ticks_177 : decode cX9_ticks 177 = .ok (.invokevirtual 59, 3) := by decide +kernel
theorem dX9_ticks_180 : decode cX9_ticks 180 = .ok (.iinc 1 1, 3) := by decide +kernel
theorem dX9_ticks_183 : decode cX9_ticks 183 = .ok (.goto (-31), 3) := by decide +kernel
theorem dX9_ticks_186 : decode cX9_ticks 186 = .ok (.aload_n 0, 1) := by decide +kernel
theorem dX9_ticks_187 : decode cX9_ticks 187 = .ok (.invokevirtual 147, 3) := by decide +kernel
theorem dX9_ticks_190 : decode cX9_ticks 190 = .ok (.return_, 1) := by decide +kernel
theorem dX9_workBegins_0 : decode cX9_workBegins 0 = .ok (.bipush 40, 2) := by decide +kernel
theorem dX9_workBegins_2 : decode cX9_workBegins 2 = .ok (.istore_n 2, 1) := by decide +kernel
theorem dX9_workBegins_3 : decode cX9_workBegins 3 = .ok (.iload_n 2, 1) := by decide +kernel
theorem dX9_workBegins_4 : decode cX9_workBegins 4 = .ok (.sipush 184, 3) := by decide +kernel
theorem dX9_workBegins_7 : decode cX9_workBegins 7 = .ok (.if_icmp .ge 30, 3) := by decide +kernel
theorem dX9_workBegins_10 : decode cX9_workBegins 10 = .ok (.iload_n 2, 1) := by decide +kernel
theorem dX9_workBegins_11 : decode cX9_workBegins 11 = .ok (.bipush 40, 2) := by decide +kernel
theorem dX9_workBegins_13 : decode cX9_workBegins 13 = .ok (.isub, 1) := by decide +kernel
theorem dX9_workBegins_14 : decode cX9_workBegins 14 = .ok (.bipush 88, 2) := by decide +kernel
theorem dX9_workBegins_16 : decode cX9_workBegins 16 = .ok (.bipush 95, 2) := by decide +kernel
theorem dX9_workBegins_18 : decode cX9_workBegins 18 = .ok (.invokestatic 43, 3) := by decide +kernel
theorem dX9_workBegins_21 : decode cX9_workBegins 21 = .ok (.ifCond .ne 10, 3) := by decide +kernel
theorem dX9_workBegins_24 : decode cX9_workBegins 24 = .ok (.aload_n 0, 1) := by decide +kernel
theorem dX9_workBegins_25 : decode cX9_workBegins 25 = .ok (.getfield 7, 3) := by decide +kernel
theorem dX9_workBegins_28 : decode cX9_workBegins 28 = .ok (.iload_n 2, 1) := by decide +kernel
theorem dX9_workBegins_29 : decode cX9_workBegins 29 = .ok (.iconst 0, 1) := by decide +kernel
theorem dX9_workBegins_30 : decode cX9_workBegins 30 = .ok (.iastore, 1) := by decide +kernel
theorem dX9_workBegins_31 : decode cX9_workBegins 31 = .ok (.iinc 2 1, 3) := by decide +kernel
theorem dX9_workBegins_34 : decode cX9_workBegins 34 = .ok (.goto (-31), 3) := by decide +kernel
theorem dX9_workBegins_37 : decode cX9_workBegins 37 = .ok (.sipush 248, 3) := by decide +kernel
theorem dX9_workBegins_40 : decode cX9_workBegins 40 = .ok (.istore_n 2, 1) := by decide +kernel
theorem dX9_workBegins_41 : decode cX9_workBegins 41 = .ok (.iload_n 2, 1) := by decide +kernel
theorem dX9_workBegins_42 : decode cX9_workBegins 42 = .ok (.sipush 504, 3) := by decide +kernel
theorem dX9_workBegins_45 : decode cX9_workBegins 45 = .ok (.if_icmp .ge 16, 3) := by decide +kernel
theorem dX9_workBegins_48 : decode cX9_workBegins 48 = .ok (.aload_n 0, 1) := by decide +kernel
theorem dX9_workBegins_49 : decode cX9_workBegins 49 = .ok (.getfield 7, 3) := by decide +kernel
theorem dX9_workBegins_52 : decode cX9_workBegins 52 = .ok (.iload_n 2, 1) := by decide +kernel
theorem dX9_workBegins_53 : decode cX9_workBegins 53 = .ok (.iconst 0, 1) := by decide +kernel
theorem dX9_workBegins_54 : decode cX9_workBegins 54 = .ok (.iastore, 1) := by decide +kernel
theorem dX9_workBegins_55 : decode cX9_workBegins 55 = .ok (.iinc 2 1, 3) := by decide +kernel
theorem dX9_workBegins_58 : decode cX9_workBegins 58 = .ok (.goto (-17), 3) := by decide +kernel
theorem dX9_workBegins_61 : decode cX9_workBegins 61 = .ok (.bipush 7, 2) := by decide +kernel
theorem dX9_workBegins_63 : decode cX9_workBegins 63 = .ok (.istore_n 2, 1) := by decide +kernel
theorem dX9_workBegins_64 : decode cX9_workBegins 64 = .ok (.iload_n 2, 1) := by decide +kernel
theorem dX9_workBegins_65 : decode cX9_workBegins 65 = .ok (.bipush 37, 2) := by decide +kernel
theorem dX9_workBegins_67 : decode cX9_workBegins 67 = .ok (.if_icmp .gt 16, 3) := by decide +kernel
theorem dX9_workBegins_70 : decode cX9_workBegins 70 = .ok (.aload_n 0, 1) := by decide +kernel
theorem dX9_workBegins_71 : decode cX9_workBegins 71 = .ok (.getfield 7, 3) := by decide +kernel
theorem dX9_workBegins_74 : decode cX9_workBegins 74 = .ok (.iload_n 2, 1) := by decide +kernel
theorem dX9_workBegins_75 : decode cX9_workBegins 75 = .ok (.iconst 0, 1) := by decide +kernel
theorem dX9_workBegins_76 : decode cX9_workBegins 76 = .ok (.iastore, 1) := by decide +kernel
theorem dX9_workBegins_77 : decode cX9_workBegins 77 = .ok (.iinc 2 1, 3) := by decide +kernel
theorem dX9_workBegins_80 : decode cX9_workBegins 80 = .ok (.goto (-16), 3) := by decide +kernel
theorem dX9_workBegins_83 : decode cX9_workBegins 83 = .ok (.iconst 0, 1) := by decide +kernel
theorem dX9_workBegins_84 : decode cX9_workBegins 84 = .ok (.istore_n 2, 1) := by decide +kernel
theorem dX9_workBegins_85 : decode cX9_workBegins 85 = .ok (.iload_n 2, 1) := by decide +kernel
theorem dX9_workBegins_86 : decode cX9_workBegins 86 = .ok (.iconst 4, 1) := by decide +kernel
theorem dX9_workBegins_87 : decode cX9_workBegins 87 = .ok (.if_icmp .ge 19, 3) := by decide +kernel
theorem dX9_workBegins_90 : decode cX9_workBegins 90 = .ok (.aload_n 0, 1) := by decide +kernel
theorem dX9_workBegins_91 : decode cX9_workBegins 91 = .ok (.getfield 7, 3) := by decide +kernel
theorem dX9_workBegins_94 : decode cX9_workBegins 94 = .ok (.bipush 8, 2) := by decide +kernel
theorem dX9_workBegins_96 : decode cX9_workBegins 96 = .ok (.iload_n 2, 1) := by decide +kernel
theorem dX9_workBegins_97 : decode cX9_workBegins 97 = .ok (.iadd, 1) := by decide +kernel
theorem dX9_workBegins_98 : decode cX9_workBegins 98 = .ok (.iconst (-1), 1) := by decide +kernel
theorem dX9_workBegins_99 : decode cX9_workBegins 99 = .ok (.iastore, 1) := by decide +kernel
theorem dX9_workBegins_100 : decode cX9_workBegins 100 = .ok (.iinc 2 1, 3) := by decide +kernel
theorem dX9_workBegins_103 : decode cX9_workBegins 103 = .ok (.goto (-18), 3) := by decide +kernel
theorem dX9_workBegins_106 : decode cX9_workBegins 106 = .ok (.iconst 0, 1) := by decide +kernel
theorem dX9_workBegins_107 : decode cX9_workBegins 107 = .ok (.istore_n 2, 1) := by decide +kernel
theorem dX9_workBegins_108 : decode cX9_workBegins 108 = .ok (.iload_n 2, 1) := by decide +kernel
theorem dX9_workBegins_109 : decode cX9_workBegins 109 = .ok (.bipush 8, 2) := by decide +kernel
theorem dX9_workBegins_111 : decode cX9_workBegins 111 = .ok (.if_icmp .ge 26, 3) := by decide +kernel
theorem dX9_workBegins_114 : decode cX9_workBegins 114 = .ok (.aload_n 0, 1) := by decide +kernel
theorem dX9_workBegins_115 : decode cX9_workBegins 115 = .ok (.iload_n 2, 1) := by decide +kernel
theorem dX9_workBegins_116 : decode cX9_workBegins 116 = .ok (.bipush 32, 2) := by decide +kernel
theorem dX9_workBegins_118 : decode cX9_workBegins 118 = .ok (.iconst (-1), 1) := by decide +kernel
theorem dX9_workBegins_119 : decode cX9_workBegins 119 = .ok (.invokevirtual 63, 3) := by decide +kernel
theorem dX9_workBegins_122 : decode cX9_workBegins 122 = .ok (.aload_n 0, 1) := by decide +kernel
theorem dX9_workBegins_123 : decode cX9_workBegins 123 = .ok (.iload_n 2, 1) := by decide +kernel
theorem dX9_workBegins_124 : decode cX9_workBegins 124 = .ok (.sipush 128, 3) := by decide +kernel
theorem dX9_workBegins_127 : decode cX9_workBegins 127 = .ok (.iconst (-1), 1) := by decide +kernel
theorem dX9_workBegins_128 : decode cX9_workBegins 128 = .ok (.invokevirtual 63, 3) := by decide +kernel
theorem dX9_workBegins_131 : decode cX9_workBegins 131 = .ok (.iinc 2 1, 3) := by decide +kernel
theorem dX9_workBegins_134 : decode cX9_workBegins 134 = .ok (.goto (-26), 3) := by decide +kernel
theorem dX9_workBegins_137 : decode cX9_workBegins 137 = .ok (.aload_n 0, 1) := by decide +kernel
theorem dX9_workBegins_138 : decode cX9_workBegins 138 = .ok (.getfield 7, 3) := by decide +kernel
theorem dX9_workBegins_141 : decode cX9_workBegins 141 = .ok (.iconst 2, 1) := by decide +kernel
theorem dX9_workBegins_142 : decode cX9_workBegins 142 = .ok (.iconst 0, 1) := by decide +kernel
theorem dX9_workBegins_143 : decode cX9_workBegins 143 = .ok (.iastore, 1) := by decide +kernel
theorem dX9_workBegins_144 : decode cX9_workBegins 144 = .ok (.aload_n 0, 1) := by decide +kernel
theorem dX9_workBegins_145 : decode cX9_workBegins 145 = .ok (.getfield 7, 3) := by decide +kernel
theorem dX9_workBegins_148 : decode cX9_workBegins 148 = .ok (.iconst 5, 1) := by decide +kernel
theorem dX9_workBegins_149 : decode cX9_workBegins 149 = .ok (.aload_n 0, 1) := by decide +kernel
theorem dX9_workBegins_150 : decode cX9_workBegins 150 = .ok (.getfield 7, 3) := by decide +kernel
theorem dX9_workBegins_153 : decode cX9_workBegins 153 = .ok (.iconst 4, 1) := by decide +kernel
theorem dX9_workBegins_154 : decode cX9_workBegins 154 = .ok (.iaload, 1) := by decide +kernel
theorem dX9_workBegins_155 : decode cX9_workBegins 155 = .ok (.iastore, 1) := by decide +kernel
theorem dX9_workBegins_156 : decode cX9_workBegins 156 = .ok (.aload_n 0, 1) := by decide +kernel
theorem dX9_workBegins_157 : decode cX9_workBegins 157 = .ok (.getfield 7, 3) := by decide +kernel
theorem dX9_workBegins_160 : decode cX9_workBegins 160 = .ok (.bipush 6, 2) := by decide +kernel
theorem dX9_workBegins_162 : decode cX9_workBegins 162 = .ok (.iconst (-1), 1) := by decide +kernel
theorem dX9_workBegins_163 : decode cX9_workBegins 163 = .ok (.iastore, 1) := by decide +kernel
theorem dX9_workBegins_164 : decode cX9_workBegins 164 = .ok (.aload_n 0, 1) := by decide +kernel
theorem dX9_workBegins_165 : decode cX9_workBegins 165 = .ok (.getfield 7, 3) := by decide +kernel
theorem dX9_workBegins_168 : decode cX9_workBegins 168 = .ok (.bipush 34, 2) := by decide +kernel
theorem dX9_workBegins_170 : decode cX9_workBegins 170 = .ok (.iconst (-1), 1) := by decide +kernel
theorem dX9_workBegins_171 : decode cX9_workBegins 171 = .ok (.iastore, 1) := by decide +kernel
theorem dX9_workBegins_172 : decode cX9_workBegins 172 = .ok (.aload_n 0, 1) := by decide +kernel
theorem dX9_workBegins_173 : decode cX9_workBegins 173 = .ok (.getfield 7, 3) := by decide +kernel
theorem dX9_workBegins_176 : decode cX9_workBegins 176 = .ok (.bipush 37, 2) := by decide +kernel
theorem dX9_workBegins_178 : decode cX9_workBegins 178 = .ok (.iconst (-1), 1) := by decide +kernel
theorem dX9_workBegins_179 : decode cX9_workBegins 179 = .ok (.iastore, 1) := by decide +kernel
theorem dX9_workBegins_180 : decode cX9_workBegins 180 = .ok (.aload_n 0, 1) := by decide +kernel
theorem dX9_workBegins_181 : decode cX9_workBegins 181 = .ok (.getfield 7, 3) := by decide +kernel
theorem dX9_workBegins_184 : decode cX9_workBegins 184 = .ok (.bipush 20, 2) := by decide +kernel
theorem dX9_workBegins_186 : decode cX9_workBegins 186 = .ok (.iconst 1, 1) := by decide +kernel
theorem dX9_workBegins_187 : decode cX9_workBegins 187 = .ok (.iastore, 1) := by decide +kernel
theorem dX9_workBegins_188 : decode cX9_workBegins 188 = .ok (.aload_n 0, 1) := by decide +kernel
theorem dX9_workBegins_189 : decode cX9_workBegins 189 = .ok (.getfield 7, 3) := by decide +kernel
theorem dX9_workBegins_192 : decode cX9_workBegins 192 = .ok (.bipush 31, 2) := by decide +kernel
theorem dX9_workBegins_194 : decode cX9_workBegins 194 = .ok (.iconst 1, 1) := by decide +kernel
theorem dX9_workBegins_195 : decode cX9_workBegins 195 = .ok (.iastore, 1) := by decide +kernel
theorem dX9_workBegins_196 : decode cX9_workBegins 196 = .ok (.aload_n 0, 1) := by decide +kernel
theorem dX9_workBegins_197 : decode cX9_workBegins 197 = .ok (.getfield 7, 3) := by decide +kernel
theorem dX9_workBegins_200 : decode cX9_workBegins 200 = .ok (.bipush 22, 2) := by decide +kernel
theorem dX9_workBegins_202 : decode cX9_workBegins 202 = .ok (.ldc 150, 2) := by decide +kernel
theorem dX9_workBegins_204 : decode cX9_workBegins 204 = .ok (.iastore, 1) := by decide +kernel
theorem dX9_workBegins_205 : decode cX9_workBegins 205 = .ok (.aload_n 0, 1) := by decide +kernel
theorem dX9_workBegins_206 : decode cX9_workBegins 206 = .ok (.iconst 0, 1) := by decide +kernel
theorem dX9_workBegins_207 : decode cX9_workBegins 207 = .ok (.iconst 0, 1) := by decide +kernel
theorem dX9_workBegins_208 : decode cX9_workBegins 208 = .ok (.iload_n 1, 1) := by decide +kernel
theorem dX9_workBegins_209 : decode cX9_workBegins 209 = .ok (.invokevirtual 63, 3) := by decide +kernel
theorem dX9_workBegins_212 : decode cX9_workBegins 212 = .ok (.aload_n 0, 1) := by decide +kernel
theorem dX9_workBegins_213 : decode cX9_workBegins 213 = .ok (.iconst 0, 1) := by decide +kernel
theorem dX9_workBegins_214 : decode cX9_workBegins 214 = .ok (.bipush 40, 2) := by decide +kernel
theorem dX9_workBegins_216 : decode cX9_workBegins 216 = .ok (.iconst 1, 1) := by decide +kernel
theorem dX9_workBegins_217 : decode cX9_workBegins 217 = .ok (.invokevirtual 63, 3) := by decide +kernel
theorem dX9_workBegins_220 : decode cX9_workBegins 220 = .ok (.aload_n 0, 1) := by decide +kernel
theorem dX9_workBegins_221 : decode cX9_workBegins 221 = .ok (.iconst 0, 1) := by decide +kernel
theorem dX9_workBegins_222 : decode cX9_workBegins 222 = .ok (.bipush 72, 2) := by decide +kernel
theorem dX9_workBegins_224 : decode cX9_workBegins 224 = .ok (.ldc 150, 2) := by decide +kernel
theorem dX9_workBegins_226 : decode cX9_workBegins 226 = .ok (.invokevirtual 63, 3) := by decide +kernel
theorem dX9_workBegins_229 : decode cX9_workBegins 229 = .ok (.aload_n 0, 1) := by decide +kernel
theorem dX9_workBegins_230 : decode cX9_workBegins 230 = .ok (.iconst 0, 1) := by decide +kernel
theorem dX9_workBegins_231 : decode cX9_workBegins 231 = .ok (.iload_n 1, 1) := by decide +kernel
theorem dX9_workBegins_232 : decode cX9_workBegins 232 = .ok (.invokevirtual 51, 3) := by decide +kernel
theorem dX9_workBegins_235 : decode cX9_workBegins 235 = .ok (.return_, 1) := by decide +kernel
theorem dX9_lays_0 : decode cX9_lays 0 = .ok (.bipush 24, 2) := by decide +kernel
theorem dX9_lays_2 : decode cX9_lays 2 = .ok (.istore_n 2, 1) := by decide +kernel
theorem dX9_lays_3 : decode cX9_lays 3 = .ok (.iload_n 2, 1) := by decide +kernel
theorem dX9_lays_4 : decode cX9_lays 4 = .ok (.ifCond .lt 32, 3) := by decide +kernel
theorem dX9_lays_7 : decode cX9_lays 7 = .ok (.aload_n 0, 1) := by decide +kernel
theorem dX9_lays_8 : decode cX9_lays 8 = .ok (.getfield 22, 3) := by decide +kernel
theorem dX9_lays_11 : decode cX9_lays 11 = .ok (.aload_n 0, 1) := by decide +kernel
theorem dX9_lays_12 : decode cX9_lays 12 = .ok (.getfield 151, 3) := by decide +kernel
theorem dX9_lays_15 : decode cX9_lays 15 = .ok (.iload_n 1, 1) := by decide +kernel
theorem dX9_lays_16 : decode cX9_lays 16 = .ok (.iload_n 2, 1) := by decide +kernel
theorem dX9_lays_17 : decode cX9_lays 17 = .ok (.ishr, 1) := by decide +kernel
theorem dX9_lays_18 : decode cX9_lays 18 = .ok (.i2b, 1) := by decide +kernel
theorem dX9_lays_19 : decode cX9_lays 19 = .ok (.bastore, 1) := by decide +kernel
theorem dX9_lays_20 : decode cX9_lays 20 = .ok (.aload_n 0, 1) := by decide +kernel
theorem dX9_lays_21 : decode cX9_lays 21 = .ok (.dup, 1) := by decide +kernel
theorem dX9_lays_22 : decode cX9_lays 22 = .ok (.getfield 151, 3) := by decide +kernel
theorem dX9_lays_25 : decode cX9_lays 25 = .ok (.iconst 1, 1) := by decide +kernel
theorem dX9_lays_26 : decode cX9_lays 26 = .ok (.iadd, 1) := by decide +kernel
theorem dX9_lays_27 : decode cX9_lays 27 = .ok (.putfield 151, 3) := by decide +kernel
theorem dX9_lays_30 : decode cX9_lays 30 = .ok (.iinc 2 (-8), 3) := by decide +kernel
theorem dX9_lays_33 : decode cX9_lays 33 = .ok (.goto (-30), 3) := by decide +kernel
theorem dX9_lays_36 : decode cX9_lays 36 = .ok (.return_, 1) := by decide +kernel
theorem dX9_feed_0 : decode cX9_feed 0 = .ok (.aload_n 0, 1) := by decide +kernel
theorem dX9_feed_1 : decode cX9_feed 1 = .ok (.iconst 0, 1) := by decide +kernel
theorem dX9_feed_2 : decode cX9_feed 2 = .ok (.putfield 37, 3) := by decide +kernel
theorem dX9_feed_5 : decode cX9_feed 5 = .ok (.aload_n 0, 1) := by decide +kernel
theorem dX9_feed_6 : decode cX9_feed 6 = .ok (.getfield 151, 3) := by decide +kernel
theorem dX9_feed_9 : decode cX9_feed 9 = .ok (.bipush 20, 2) := by decide +kernel
theorem dX9_feed_11 : decode cX9_feed 11 = .ok (.iadd, 1) := by decide +kernel
theorem dX9_feed_12 : decode cX9_feed 12 = .ok (.sipush 600, 3) := by decide +kernel
theorem dX9_feed_15 : decode cX9_feed 15 = .ok (.if_icmp .le 5, 3) := by decide +kernel
theorem dX9_feed_18 : decode cX9_feed 18 = .ok (.iconst (-1), 1) := by decide +kernel
theorem dX9_feed_19 : decode cX9_feed 19 = .ok (.ireturn, 1) := by decide +kernel
theorem dX9_feed_20 : decode cX9_feed 20 = .ok (.aload_n 0, 1) := by decide +kernel
theorem dX9_feed_21 : decode cX9_feed 21 = .ok (.iload_n 1, 1) := by decide +kernel
theorem dX9_feed_22 : decode cX9_feed 22 = .ok (.invokevirtual 154, 3) := by decide +kernel
theorem dX9_feed_25 : decode cX9_feed 25 = .ok (.aload_n 0, 1) := by decide +kernel
theorem dX9_feed_26 : decode cX9_feed 26 = .ok (.iload_n 2, 1) := by decide +kernel
theorem dX9_feed_27 : decode cX9_feed 27 = .ok (.invokevirtual 154, 3) := by decide +kernel
theorem dX9_feed_30 : decode cX9_feed 30 = .ok (.aload_n 0, 1) := by decide +kernel
theorem dX9_feed_31 : decode cX9_feed 31 = .ok (.iload_n 3, 1) := by decide +kernel
theorem dX9_feed_32 : decode cX9_feed 32 = .ok (.invokevirtual 154, 3) := by decide +kernel
theorem dX9_feed_35 : decode cX9_feed 35 = .ok (.aload_n 0, 1) := by decide +kernel
theorem dX9_feed_36 : decode cX9_feed 36 = .ok (.iload 4, 2) := by decide +kernel
theorem dX9_feed_38 : decode cX9_feed 38 = .ok (.invokevirtual 154, 3) := by decide +kernel
theorem dX9_feed_41 : decode cX9_feed 41 = .ok (.aload_n 0, 1) := by decide +kernel
theorem dX9_feed_42 : decode cX9_feed 42 = .ok (.iload 5, 2) := by decide +kernel
theorem dX9_feed_44 : decode cX9_feed 44 = .ok (.invokevirtual 154, 3) := by decide +kernel
theorem dX9_feed_47 : decode cX9_feed 47 = .ok (.aload_n 0, 1) := by decide +kernel
theorem dX9_feed_48 : decode cX9_feed 48 = .ok (.getfield 151, 3) := by decide +kernel
theorem dX9_feed_51 : decode cX9_feed 51 = .ok (.ireturn, 1) := by decide +kernel
theorem dX9_isOf_0 : decode cX9_isOf 0 = .ok (.iload_n 1, 1) := by decide +kernel
theorem dX9_isOf_1 : decode cX9_isOf 1 = .ok (.aload_n 0, 1) := by decide +kernel
theorem dX9_isOf_2 : decode cX9_isOf 2 = .ok (.getfield 157, 3) := by decide +kernel
theorem dX9_isOf_5 : decode cX9_isOf 5 = .ok (.if_icmp .ge 21, 3) := by decide +kernel
theorem dX9_isOf_8 : decode cX9_isOf 8 = .ok (.aload_n 0, 1) := by decide +kernel
theorem dX9_isOf_9 : decode cX9_isOf 9 = .ok (.getfield 22, 3) := by decide +kernel
theorem dX9_isOf_12 : decode cX9_isOf 12 = .ok (.iload_n 1, 1) := by decide +kernel
theorem dX9_isOf_13 : decode cX9_isOf 13 = .ok (.baload, 1) := by decide +kernel
theorem dX9_isOf_14 : decode cX9_isOf 14 = .ok (.iload_n 2, 1) := by decide +kernel
theorem dX9_isOf_15 : decode cX9_isOf 15 = .ok (.iload_n 3, 1) := by decide +kernel
theorem dX9_isOf_16 : decode cX9_isOf 16 = .ok (.invokestatic 43, 3) := by decide +kernel
theorem dX9_isOf_19 : decode cX9_isOf 19 = .ok (.ifCond .eq 7, 3) := by decide +kernel
theorem dX9_isOf_22 : decode cX9_isOf 22 = .ok (.iconst 1, 1) := by decide +kernel
theorem dX9_isOf_23 : decode cX9_isOf 23 = .ok (.goto 4, 3) := by decide +kernel
theorem dX9_isOf_26 : decode cX9_isOf 26 = .ok (.iconst 0, 1) := by decide +kernel
theorem dX9_isOf_27 : decode cX9_isOf 27 = .ok (.ireturn, 1) := by decide +kernel
theorem dX9_reads_0 : decode cX9_reads 0 = .ok (.aload_n 0, 1) := by decide +kernel
theorem dX9_reads_1 : decode cX9_reads 1 = .ok (.aload_n 0, 1) := by decide +kernel
theorem dX9_reads_2 : decode cX9_reads 2 = .ok (.getfield 160, 3) := by decide +kernel
theorem dX9_reads_5 : decode cX9_reads 5 = .ok (.putfield 163, 3) := by decide +kernel
theorem dX9_reads_8 : decode cX9_reads 8 = .ok (.aload_n 0, 1) := by decide +kernel
theorem dX9_reads_9 : decode cX9_reads 9 = .ok (.getfield 163, 3) := by decide +kernel
theorem dX9_reads_12 : decode cX9_reads 12 = .ok (.aload_n 0, 1) := by decide +kernel
theorem dX9_reads_13 : decode cX9_reads 13 = .ok (.getfield 157, 3) := by decide +kernel
theorem dX9_reads_16 : decode cX9_reads 16 = .ok (.if_icmp .ge 44, 3) := by decide +kernel
theorem dX9_reads_19 : decode cX9_reads 19 = .ok (.aload_n 0, 1) := by decide +kernel
theorem dX9_reads_20 : decode cX9_reads 20 = .ok (.getfield 22, 3) := by decide +kernel
theorem dX9_reads_23 : decode cX9_reads 23 = .ok (.aload_n 0, 1) := by decide +kernel
theorem dX9_reads_24 : decode cX9_reads 24 = .ok (.getfield 163, 3) := by decide +kernel
theorem dX9_reads_27 : decode cX9_reads 27 = .ok (.baload, 1) := by decide +kernel
theorem dX9_reads_28 : decode cX9_reads 28 = .ok (.bipush 10, 2) := by decide +kernel
theorem dX9_reads_30 : decode cX9_reads 30 = .ok (.if_icmp .eq 17, 3) := by decide +kernel
theorem dX9_reads_33 : decode cX9_reads 33 = .ok (.aload_n 0, 1) := by decide +kernel
theorem dX9_reads_34 : decode cX9_reads 34 = .ok (.getfield 22, 3) := by decide +kernel
theorem dX9_reads_37 : decode cX9_reads 37 = .ok (.aload_n 0, 1) := by decide +kernel
theorem dX9_reads_38 : decode cX9_reads 38 = .ok (.getfield 163, 3) := by decide +kernel
theorem dX9_reads_41 : decode cX9_reads 41 = .ok (.baload, 1) := by decide +kernel
theorem dX9_reads_42 : decode cX9_reads 42 = .ok (.bipush 32, 2) := by decide +kernel
theorem dX9_reads_44 : decode cX9_reads 44 = .ok (.if_icmp .ne 16, 3) := by decide +kernel
theorem dX9_reads_47 : decode cX9_reads 47 = .ok (.aload_n 0, 1) := by decide +kernel
theorem dX9_reads_48 : decode cX9_reads 48 = .ok (.dup, 1) := by decide +kernel
theorem dX9_reads_49 : decode cX9_reads 49 = .ok (.getfield 163, 3) := by decide +kernel
theorem dX9_reads_52 : decode cX9_reads 52 = .ok (.iconst 1, 1) := by decide +kernel
theorem dX9_reads_53 : decode cX9_reads 53 = .ok (.iadd, 1) := by decide +kernel
theorem dX9_reads_54 : decode cX9_reads 54 = .ok (.putfield 163, 3) := by decide +kernel
theorem dX9_reads_57 : decode cX9_reads 57 = .ok (.goto (-49), 3) := by decide +kernel
theorem dX9_reads_60 : decode cX9_reads 60 = .ok (.aload_n 0, 1) := by decide +kernel
theorem dX9_reads_61 : decode cX9_reads 61 = .ok (.aload_n 0, 1) := by decide +kernel
theorem dX9_reads_62 : decode cX9_reads 62 = .ok (.getfield 163, 3) := by decide +kernel
theorem dX9_reads_65 : decode cX9_reads 65 = .ok (.iconst 1, 1) := by decide +kernel
theorem dX9_reads_66 : decode cX9_reads 66 = .ok (.iadd, 1) := by decide +kernel
theorem dX9_reads_67 : decode cX9_reads 67 = .ok (.putfield 160, 3) := by decide +kernel
theorem dX9_reads_70 : decode cX9_reads 70 = .ok (.aload_n 0, 1) := by decide +kernel
theorem dX9_reads_71 : decode cX9_reads 71 = .ok (.aload_n 0, 1) := by decide +kernel
theorem dX9_reads_72 : decode cX9_reads 72 = .ok (.getfield 163, 3) := by decide +kernel
theorem dX9_reads_75 : decode cX9_reads 75 = .ok (.aload_n 0, 1) := by decide +kernel
theorem dX9_reads_76 : decode cX9_reads 76 = .ok (.getfield 157, 3) := by decide +kernel
theorem dX9_reads_79 : decode cX9_reads 79 = .ok (.if_icmp .lt 7, 3) := by decide +kernel
theorem dX9_reads_82 : decode cX9_reads 82 = .ok (.iconst 0, 1) := by decide +kernel
theorem dX9_reads_83 : decode cX9_reads 83 = .ok (.goto 22, 3) := by decide +kernel
theorem dX9_reads_86 : decode cX9_reads 86 = .ok (.aload_n 0, 1) := by decide +kernel
theorem dX9_reads_87 : decode cX9_reads 87 = .ok (.getfield 22, 3) := by decide +kernel
theorem dX9_reads_90 : decode cX9_reads 90 = .ok (.aload_n 0, 1) := by decide +kernel
theorem dX9_reads_91 : decode cX9_reads 91 = .ok (.getfield 163, 3) := by decide +kernel
theorem dX9_reads_94 : decode cX9_reads 94 = .ok (.baload, 1) := by decide +kernel
theorem dX9_reads_95 : decode cX9_reads 95 = .ok (.bipush 59, 2) := by decide +kernel
theorem dX9_reads_97 : decode cX9_reads 97 = .ok (.if_icmp .ne 7, 3) := by decide +kernel
theorem dX9_reads_100 : decode cX9_reads 100 = .ok (.iconst 3, 1) := by decide +kernel
theorem dX9_reads_101 : decode cX9_reads 101 = .ok (.goto 4, 3) := by decide +kernel
theorem dX9_reads_104 : decode cX9_reads 104 = .ok (.iconst 4, 1) := by decide +kernel
theorem dX9_reads_105 : decode cX9_reads 105 = .ok (.putfield 166, 3) := by decide +kernel
theorem dX9_reads_108 : decode cX9_reads 108 = .ok (.aload_n 0, 1) := by decide +kernel
theorem dX9_reads_109 : decode cX9_reads 109 = .ok (.aload_n 0, 1) := by decide +kernel
theorem dX9_reads_110 : decode cX9_reads 110 = .ok (.getfield 163, 3) := by decide +kernel
theorem dX9_reads_113 : decode cX9_reads 113 = .ok (.bipush 97, 2) := by decide +kernel
theorem dX9_reads_115 : decode cX9_reads 115 = .ok (.bipush 122, 2) := by decide +kernel
theorem dX9_reads_117 : decode cX9_reads 117 = .ok (.invokevirtual 169, 3) := by decide +kernel
theorem dX9_reads_120 : decode cX9_reads 120 = .ok (.ifCond .eq 97, 3) := by decide +kernel
theorem dX9_reads_123 : decode cX9_reads 123 = .ok (.aload_n 0, 1) := by decide +kernel
theorem dX9_reads_124 : decode cX9_reads 124 = .ok (.iconst 1, 1) := by decide +kernel
theorem dX9_reads_125 : decode cX9_reads 125 = .ok (.putfield 166, 3) := by decide +kernel
theorem dX9_reads_128 : decode cX9_reads 128 = .ok (.aload_n 0, 1) := by decide +kernel
theorem dX9_reads_129 : decode cX9_reads 129 = .ok (.lconst 0, 1) := by decide +kernel
theorem dX9_reads_130 : decode cX9_reads 130 = .ok (.putfield 172, 3) := by decide +kernel
theorem dX9_reads_133 : decode cX9_reads 133 = .ok (.aload_n 0, 1) := by decide +kernel
theorem dX9_reads_134 : decode cX9_reads 134 = .ok (.aload_n 0, 1) := by decide +kernel
theorem dX9_reads_135 : decode cX9_reads 135 = .ok (.getfield 163, 3) := by decide +kernel
theorem dX9_reads_138 : decode cX9_reads 138 = .ok (.putfield 160, 3) := by decide +kernel
theorem dX9_reads_141 : decode cX9_reads 141 = .ok (.aload_n 0, 1) := by decide +kernel
theorem dX9_reads_142 : decode cX9_reads 142 = .ok (.aload_n 0, 1) := by decide +kernel
theorem dX9_reads_143 : decode cX9_reads 143 = .ok (.getfield 160, 3) := by decide +kernel
theorem dX9_reads_146 : decode cX9_reads 146 = .ok (.bipush 97, 2) := by decide +kernel
theorem dX9_reads_148 : decode cX9_reads 148 = .ok (.bipush 122, 2) := by decide +kernel
theorem dX9_reads_150 : decode cX9_reads 150 = .ok (.invokevirtual 169, 3) := by decide +kernel
theorem dX9_reads_153 : decode cX9_reads 153 = .ok (.ifCond .eq 186, 3) := by decide +kernel
theorem dX9_reads_156 : decode cX9_reads 156 = .ok (.aload_n 0, 1) := by decide +kernel
theorem dX9_reads_157 : decode cX9_reads 157 = .ok (.aload_n 0, 1) := by decide +kernel
theorem dX9_reads_158 : decode cX9_reads 158 = .ok (.getfield 160, 3) := by decide +kernel
theorem dX9_reads_161 : decode cX9_reads 161 = .ok (.aload_n 0, 1) := by decide +kernel
theorem dX9_reads_162 : decode cX9_reads 162 = .ok (.getfield 163, 3) := by decide +kernel
theorem dX9_reads_165 : decode cX9_reads 165 = .ok (.isub, 1) := by decide +kernel
theorem dX9_reads_166 : decode cX9_reads 166 = .ok (.bipush 9, 2) := by decide +kernel
theorem dX9_reads_168 : decode cX9_reads 168 = .ok (.if_icmp .ge 29, 3) := by decide +kernel
theorem dX9_reads_171 : decode cX9_reads 171 = .ok (.ldc2_w 176, 3) := by decide +kernel
theorem dX9_reads_174 : decode cX9_reads 174 = .ok (.aload_n 0, 1) := by decide +kernel
theorem dX9_reads_175 : decode cX9_reads 175 = .ok (.getfield 172, 3) := by decide +kernel
theorem dX9_reads_178 : decode cX9_reads 178 = .ok (.lmul, 1) := by decide +kernel
theorem dX9_reads_179 : decode cX9_reads 179 = .ok (.aload_n 0, 1) := by decide +kernel
theorem dX9_reads_180 : decode cX9_reads 180 = .ok (.getfield 22, 3) := by decide +kernel
theorem dX9_reads_183 : decode cX9_reads 183 = .ok (.aload_n 0, 1) := by decide +kernel
theorem dX9_reads_184 : decode cX9_reads 184 = .ok (.getfield 160, 3) := by decide +kernel
theorem dX9_reads_187 : decode cX9_reads 187 = .ok (.baload, 1) := by decide +kernel
theorem dX9_reads_188 : decode cX9_reads 188 = .ok (.i2l, 1) := by decide +kernel
theorem dX9_reads_189 : decode cX9_reads 189 = .ok (.ladd, 1) := by decide +kernel
theorem dX9_reads_190 : decode cX9_reads 190 = .ok (.ldc2_w 178, 3) := by decide +kernel
theorem dX9_reads_193 : decode cX9_reads 193 = .ok (.lsub, 1) := by decide +kernel
theorem dX9_reads_194 : decode cX9_reads 194 = .ok (.goto 7, 3) := by decide +kernel
theorem dX9_reads_197 : decode cX9_reads 197 = .ok (.aload_n 0, 1) := by decide +kernel
theorem dX9_reads_198 : decode cX9_reads 198 = .ok (.getfield 172, 3) := by decide +kernel
theorem dX9_reads_201 : decode cX9_reads 201 = .ok (.putfield 172, 3) := by decide +kernel
theorem dX9_reads_204 : decode cX9_reads 204 = .ok (.aload_n 0, 1) := by decide +kernel
theorem dX9_reads_205 : decode cX9_reads 205 = .ok (.dup, 1) := by decide +kernel
theorem dX9_reads_206 : decode cX9_reads 206 = .ok (.getfield 160, 3) := by decide +kernel
theorem dX9_reads_209 : decode cX9_reads 209 = .ok (.iconst 1, 1) := by decide +kernel
theorem dX9_reads_210 : decode cX9_reads 210 = .ok (.iadd, 1) := by decide +kernel
theorem dX9_reads_211 : decode cX9_reads 211 = .ok (.putfield 160, 3) := by decide +kernel
theorem dX9_reads_214 : decode cX9_reads 214 = .ok (.goto (-73), 3) := by decide +kernel
theorem dX9_reads_217 : decode cX9_reads 217 = .ok (.aload_n 0, 1) := by decide +kernel
theorem dX9_reads_218 : decode cX9_reads 218 = .ok (.aload_n 0, 1) := by decide +kernel
theorem dX9_reads_219 : decode cX9_reads 219 = .ok (.getfield 163, 3) := by decide +kernel
theorem dX9_reads_222 : decode cX9_reads 222 = .ok (.bipush 48, 2) := by decide +kernel
theorem dX9_reads_224 : decode cX9_reads 224 = .ok (.bipush 57, 2) := by decide +kernel
theorem dX9_reads_226 : decode cX9_reads 226 = .ok (.invokevirtual 169, 3) := by decide +kernel
theorem dX9_reads_229 : decode cX9_reads 229 = .ok (.ifCond .eq 110, 3) := by decide +kernel
theorem dX9_reads_232 : decode cX9_reads 232 = .ok (.aload_n 0, 1) := by decide +kernel
theorem dX9_reads_233 : decode cX9_reads 233 = .ok (.iconst 0, 1) := by decide +kernel
theorem dX9_reads_234 : decode cX9_reads 234 = .ok (.putfield 180, 3) := by decide +kernel
theorem dX9_reads_237 : decode cX9_reads 237 = .ok (.aload_n 0, 1) := by decide +kernel
theorem dX9_reads_238 : decode cX9_reads 238 = .ok (.aload_n 0, 1) := by decide +kernel
theorem dX9_reads_239 : decode cX9_reads 239 = .ok (.getfield 163, 3) := by decide +kernel
theorem dX9_reads_242 : decode cX9_reads 242 = .ok (.putfield 160, 3) := by decide +kernel
theorem dX9_reads_245 : decode cX9_reads 245 = .ok (.aload_n 0, 1) := by decide +kernel
theorem dX9_reads_246 : decode cX9_reads 246 = .ok (.aload_n 0, 1) := by decide +kernel
theorem dX9_reads_247 : decode cX9_reads 247 = .ok (.getfield 160, 3) := by decide +kernel
theorem dX9_reads_250 : decode cX9_reads 250 = .ok (.bipush 48, 2) := by decide +kernel
theorem dX9_reads_252 : decode cX9_reads 252 = .ok (.bipush 57, 2) := by decide +kernel
theorem dX9_reads_254 : decode cX9_reads 254 = .ok (.invokevirtual 169, 3) := by decide +kernel
theorem dX9_reads_257 : decode cX9_reads 257 = .ok (.ifCond .eq 60, 3) := by decide +kernel
theorem dX9_reads_260 : decode cX9_reads 260 = .ok (.aload_n 0, 1) := by decide +kernel
theorem dX9_reads_261 : decode cX9_reads 261 = .ok (.aload_n 0, 1) := by decide +kernel
theorem dX9_reads_262 : decode cX9_reads 262 = .ok (.getfield 160, 3) := by decide +kernel
theorem dX9_reads_265 : decode cX9_reads 265 = .ok (.aload_n 0, 1) := by decide +kernel
theorem dX9_reads_266 : decode cX9_reads 266 = .ok (.getfield 163, 3) := by decide +kernel
theorem dX9_reads_269 : decode cX9_reads 269 = .ok (.isub, 1) := by decide +kernel
theorem dX9_reads_270 : decode cX9_reads 270 = .ok (.iconst 3, 1) := by decide +kernel
theorem dX9_reads_271 : decode cX9_reads 271 = .ok (.if_icmp .ge 26, 3) := by decide +kernel
theorem dX9_reads_274 : decode cX9_reads 274 = .ok (.bipush 10, 2) := by decide +kernel
theorem dX9_reads_276 : decode cX9_reads 276 = .ok (.aload_n 0, 1) := by decide +kernel
theorem dX9_reads_277 : decode cX9_reads 277 = .ok (.getfield 180, 3) := by decide +kernel
theorem dX9_reads_280 : decode cX9_reads 280 = .ok (.imul, 1) := by decide +kernel
theorem dX9_reads_281 : decode cX9_reads 281 = .ok (.aload_n 0, 1) := by decide +kernel
theorem dX9_reads_282 : decode cX9_reads 282 = .ok (.getfield 22, 3) := by decide +kernel
theorem dX9_reads_285 : decode cX9_reads 285 = .ok (.aload_n 0, 1) := by decide +kernel
theorem dX9_reads_286 : decode cX9_reads 286 = .ok (.getfield 160, 3) := by decide +kernel
theorem dX9_reads_289 : decode cX9_reads 289 = .ok (.baload, 1) := by decide +kernel
theorem dX9_reads_290 : decode cX9_reads 290 = .ok (.iadd, 1) := by decide +kernel
theorem dX9_reads_291 : decode cX9_reads 291 = .ok (.bipush 48, 2) := by decide +kernel
theorem dX9_reads_293 : decode cX9_reads 293 = .ok (.isub, 1) := by decide +kernel
theorem dX9_reads_294 : decode cX9_reads 294 = .ok (.goto 7, 3) := by decide +kernel
theorem dX9_reads_297 : decode cX9_reads 297 = .ok (.aload_n 0, 1) := by decide +kernel
theorem dX9_reads_298 : decode cX9_reads 298 = .ok (.getfield 180, 3) := by decide +kernel
theorem dX9_reads_301 : decode cX9_reads 301 = .ok (.putfield 180, 3) := by decide +kernel
theorem dX9_reads_304 : decode cX9_reads 304 = .ok (.aload_n 0, 1) := by decide +kernel
theorem dX9_reads_305 : decode cX9_reads 305 = .ok (.dup, 1) := by decide +kernel
theorem dX9_reads_306 : decode cX9_reads 306 = .ok (.getfield 160, 3) := by decide +kernel
theorem dX9_reads_309 : decode cX9_reads 309 = .ok (.iconst 1, 1) := by decide +kernel
theorem dX9_reads_310 : decode cX9_reads 310 = .ok (.iadd, 1) := by decide +kernel
theorem dX9_reads_311 : decode cX9_reads 311 = .ok (.putfield 160, 3) := by decide +kernel
theorem dX9_reads_314 : decode cX9_reads 314 = .ok (.goto (-69), 3) := by decide +kernel
theorem dX9_reads_317 : decode cX9_reads 317 = .ok (.aload_n 0, 1) := by decide +kernel
theorem dX9_reads_318 : decode cX9_reads 318 = .ok (.aload_n 0, 1) := by decide +kernel
theorem dX9_reads_319 : decode cX9_reads 319 = .ok (.getfield 160, 3) := by decide +kernel
theorem dX9_reads_322 : decode cX9_reads 322 = .ok (.aload_n 0, 1) := by decide +kernel
theorem dX9_reads_323 : decode cX9_reads 323 = .ok (.getfield 163, 3) := by decide +kernel
theorem dX9_reads_326 : decode cX9_reads 326 = .ok (.isub, 1) := by decide +kernel
theorem dX9_reads_327 : decode cX9_reads 327 = .ok (.iconst 3, 1) := by decide +kernel
theorem dX9_reads_328 : decode cX9_reads 328 = .ok (.if_icmp .le 7, 3) := by decide +kernel
theorem dX9_reads_331 : decode cX9_reads 331 = .ok (.iconst 4, 1) := by decide +kernel
theorem dX9_reads_332 : decode cX9_reads 332 = .ok (.goto 4, 3) := by decide +kernel
theorem dX9_reads_335 : decode cX9_reads 335 = .ok (.iconst 2, 1) := by decide +kernel
theorem dX9_reads_336 : decode cX9_reads 336 = .ok (.putfield 166, 3) := by decide +kernel
theorem dX9_reads_339 : decode cX9_reads 339 = .ok (.return_, 1) := by decide +kernel
theorem dX9_wants_0 : decode cX9_wants 0 = .ok (.iload_n 1, 1) := by decide +kernel
theorem dX9_wants_1 : decode cX9_wants 1 = .ok (.ifCond .ne 10, 3) := by decide +kernel
theorem dX9_wants_4 : decode cX9_wants 4 = .ok (.aload_n 0, 1) := by decide +kernel
theorem dX9_wants_5 : decode cX9_wants 5 = .ok (.getfield 183, 3) := by decide +kernel
theorem dX9_wants_8 : decode cX9_wants 8 = .ok (.ifCond .le 4, 3) := by decide +kernel
theorem dX9_wants_11 : decode cX9_wants 11 = .ok (.return_, 1) := by decide +kernel
theorem dX9_wants_12 : decode cX9_wants 12 = .ok (.aload_n 0, 1) := by decide +kernel
theorem dX9_wants_13 : decode cX9_wants 13 = .ok (.iload_n 2, 1) := by decide +kernel
theorem dX9_wants_14 : decode cX9_wants 14 = .ok (.iconst 2, 1) := by decide +kernel
theorem dX9_wants_15 : decode cX9_wants 15 = .ok (.if_icmp .ne 15, 3) := by decide +kernel
theorem dX9_wants_18 : decode cX9_wants 18 = .ok (.aload_n 0, 1) := by decide +kernel
theorem dX9_wants_19 : decode cX9_wants 19 = .ok (.getfield 166, 3) := by decide +kernel
theorem dX9_wants_22 : decode cX9_wants 22 = .ok (.iconst 4, 1) := by decide +kernel
theorem dX9_wants_23 : decode cX9_wants 23 = .ok (.if_icmp .ne 7, 3) := by decide +kernel
theorem dX9_wants_26 : decode cX9_wants 26 = .ok (.iconst 1, 1) := by decide +kernel
theorem dX9_wants_27 : decode cX9_wants 27 = .ok (.goto 4, 3) := by decide +kernel
theorem dX9_wants_30 : decode cX9_wants 30 = .ok (.iload_n 2, 1) := by decide +kernel
theorem dX9_wants_31 : decode cX9_wants 31 = .ok (.putfield 183, 3) := by decide +kernel
theorem dX9_wants_34 : decode cX9_wants 34 = .ok (.aload_n 0, 1) := by decide +kernel
theorem dX9_wants_35 : decode cX9_wants 35 = .ok (.aload_n 0, 1) := by decide +kernel
theorem dX9_wants_36 : decode cX9_wants 36 = .ok (.getfield 163, 3) := by decide +kernel
theorem dX9_wants_39 : decode cX9_wants 39 = .ok (.putfield 186, 3) := by decide +kernel
theorem dX9_wants_42 : decode cX9_wants 42 = .ok (.return_, 1) := by decide +kernel
theorem dX9_isWord_0 : decode cX9_isWord 0 = .ok (.aload_n 0, 1) := by decide +kernel
theorem dX9_isWord_1 : decode cX9_isWord 1 = .ok (.getfield 183, 3) := by decide +kernel
theorem dX9_isWord_4 : decode cX9_isWord 4 = .ok (.ifCond .ne 24, 3) := by decide +kernel
theorem dX9_isWord_7 : decode cX9_isWord 7 = .ok (.aload_n 0, 1) := by decide +kernel
theorem dX9_isWord_8 : decode cX9_isWord 8 = .ok (.getfield 166, 3) := by decide +kernel
theorem dX9_isWord_11 : decode cX9_isWord 11 = .ok (.iconst 1, 1) := by decide +kernel
theorem dX9_isWord_12 : decode cX9_isWord 12 = .ok (.if_icmp .ne 16, 3) := by decide +kernel
theorem dX9_isWord_15 : decode cX9_isWord 15 = .ok (.aload_n 0, 1) := by decide +kernel
theorem dX9_isWord_16 : decode cX9_isWord 16 = .ok (.getfield 172, 3) := by decide +kernel
theorem dX9_isWord_19 : decode cX9_isWord 19 = .ok (.lload_n 1, 1) := by decide +kernel
theorem dX9_isWord_20 : decode cX9_isWord 20 = .ok (.lcmp, 1) := by decide +kernel
theorem dX9_isWord_21 : decode cX9_isWord 21 = .ok (.ifCond .ne 7, 3) := by decide +kernel
theorem dX9_isWord_24 : decode cX9_isWord 24 = .ok (.iconst 1, 1) := by decide +kernel
theorem dX9_isWord_25 : decode cX9_isWord 25 = .ok (.goto 4, 3) := by decide +kernel
theorem dX9_isWord_28 : decode cX9_isWord 28 = .ok (.iconst 0, 1) := by decide +kernel
theorem dX9_isWord_29 : decode cX9_isWord 29 = .ok (.ireturn, 1) := by decide +kernel
theorem dX9_takes_0 : decode cX9_takes 0 = .ok (.aload_n 0, 1) := by decide +kernel
theorem dX9_takes_1 : decode cX9_takes 1 = .ok (.aload_n 0, 1) := by decide +kernel
theorem dX9_takes_2 : decode cX9_takes 2 = .ok (.getfield 166, 3) := by decide +kernel
theorem dX9_takes_5 : decode cX9_takes 5 = .ok (.iconst 2, 1) := by decide +kernel
theorem dX9_takes_6 : decode cX9_takes 6 = .ok (.if_icmp .ne 7, 3) := by decide +kernel
theorem dX9_takes_9 : decode cX9_takes 9 = .ok (.iconst 1, 1) := by decide +kernel
theorem dX9_takes_10 : decode cX9_takes 10 = .ok (.goto 4, 3) := by decide +kernel
theorem dX9_takes_13 : decode cX9_takes 13 = .ok (.iconst 0, 1) := by decide +kernel
theorem dX9_takes_14 : decode cX9_takes 14 = .ok (.iconst 2, 1) := by decide +kernel
theorem dX9_takes_15 : decode cX9_takes 15 = .ok (.invokevirtual 189, 3) := by decide +kernel
theorem dX9_takes_18 : decode cX9_takes 18 = .ok (.aload_n 0, 1) := by decide +kernel
theorem dX9_takes_19 : decode cX9_takes 19 = .ok (.aload_n 0, 1) := by decide +kernel
theorem dX9_takes_20 : decode cX9_takes 20 = .ok (.getfield 180, 3) := by decide +kernel
theorem dX9_takes_23 : decode cX9_takes 23 = .ok (.iload_n 1, 1) := by decide +kernel
theorem dX9_takes_24 : decode cX9_takes 24 = .ok (.iload_n 2, 1) := by decide +kernel
theorem dX9_takes_25 : decode cX9_takes 25 = .ok (.invokestatic 43, 3) := by decide +kernel
theorem dX9_takes_28 : decode cX9_takes 28 = .ok (.iconst 4, 1) := by decide +kernel
theorem dX9_takes_29 : decode cX9_takes 29 = .ok (.invokevirtual 189, 3) := by decide +kernel
theorem dX9_takes_32 : decode cX9_takes 32 = .ok (.aload_n 0, 1) := by decide +kernel
theorem dX9_takes_33 : decode cX9_takes 33 = .ok (.getfield 180, 3) := by decide +kernel
theorem dX9_takes_36 : decode cX9_takes 36 = .ok (.istore_n 3, 1) := by decide +kernel
theorem dX9_takes_37 : decode cX9_takes 37 = .ok (.aload_n 0, 1) := by decide +kernel
theorem dX9_takes_38 : decode cX9_takes 38 = .ok (.getfield 183, 3) := by decide +kernel
theorem dX9_takes_41 : decode cX9_takes 41 = .ok (.ifCond .ne 7, 3) := by decide +kernel
theorem dX9_takes_44 : decode cX9_takes 44 = .ok (.aload_n 0, 1) := by decide +kernel
theorem dX9_takes_45 : decode cX9_takes 45 = .ok (.invokevirtual 193, 3) := by decide +kernel
theorem dX9_takes_48 : decode cX9_takes 48 = .ok (.iload_n 3, 1) := by decide +kernel
theorem dX9_takes_49 : decode cX9_takes 49 = .ok (.ireturn, 1) := by decide +kernel
theorem dX9_takesNode_0 : decode cX9_takesNode 0 = .ok (.aload_n 0, 1) := by decide +kernel
theorem dX9_takesNode_1 : decode cX9_takesNode 1 = .ok (.aload_n 0, 1) := by decide +kernel
theorem dX9_takesNode_2 : decode cX9_takesNode 2 = .ok (.getfield 166, 3) := by decide +kernel
theorem dX9_takesNode_5 : decode cX9_takesNode 5 = .ok (.iconst 2, 1) := by decide +kernel
theorem dX9_takesNode_6 : decode cX9_takesNode 6 = .ok (.if_icmp .ne 7, 3) := by decide +kernel
theorem dX9_takesNode_9 : decode cX9_takesNode 9 = .ok (.iconst 1, 1) := by decide +kernel
theorem dX9_takesNode_10 : decode cX9_takesNode 10 = .ok (.goto 4, 3) := by decide +kernel
theorem dX9_takesNode_13 : decode cX9_takesNode 13 = .ok (.iconst 0, 1) := by decide +kernel
theorem dX9_takesNode_14 : decode cX9_takesNode 14 = .ok (.iconst 2, 1) := by decide +kernel
theorem dX9_takesNode_15 : decode cX9_takesNode 15 = .ok (.invokevirtual 189, 3) := by decide +kernel
theorem dX9_takesNode_18 : decode cX9_takesNode 18 = .ok (.aload_n 0, 1) := by decide +kernel
theorem dX9_takesNode_19 : decode cX9_takesNode 19 = .ok (.aload_n 0, 1) := by decide +kernel
theorem dX9_takesNode_20 : decode cX9_takesNode 20 = .ok (.getfield 180, 3) := by decide +kernel
theorem dX9_takesNode_23 : decode cX9_takesNode 23 = .ok (.aload_n 0, 1) := by decide +kernel
theorem dX9_takesNode_24 : decode cX9_takesNode 24 = .ok (.getfield 7, 3) := by decide +kernel
theorem dX9_takesNode_27 : decode cX9_takesNode 27 = .ok (.iconst 0, 1) := by decide +kernel
theorem dX9_takesNode_28 : decode cX9_takesNode 28 = .ok (.iaload, 1) := by decide +kernel
theorem dX9_takesNode_29 : decode cX9_takesNode 29 = .ok (.if_icmp .ge 7, 3) := by decide +kernel
theorem dX9_takesNode_32 : decode cX9_takesNode 32 = .ok (.iconst 1, 1) := by decide +kernel
theorem dX9_takesNode_33 : decode cX9_takesNode 33 = .ok (.goto 4, 3) := by decide +kernel
theorem dX9_takesNode_36 : decode cX9_takesNode 36 = .ok (.iconst 0, 1) := by decide +kernel
theorem dX9_takesNode_37 : decode cX9_takesNode 37 = .ok (.iconst 3, 1) := by decide +kernel
theorem dX9_takesNode_38 : decode cX9_takesNode 38 = .ok (.invokevirtual 189, 3) := by decide +kernel
theorem dX9_takesNode_41 : decode cX9_takesNode 41 = .ok (.aload_n 0, 1) := by decide +kernel
theorem dX9_takesNode_42 : decode cX9_takesNode 42 = .ok (.aload_n 0, 1) := by decide +kernel
theorem dX9_takesNode_43 : decode cX9_takesNode 43 = .ok (.getfield 180, 3) := by decide +kernel
theorem dX9_takesNode_46 : decode cX9_takesNode 46 = .ok (.iload_n 1, 1) := by decide +kernel
theorem dX9_takesNode_47 : decode cX9_takesNode 47 = .ok (.if_icmp .eq 7, 3) := by decide +kernel
theorem dX9_takesNode_50 : decode cX9_takesNode 50 = .ok (.iconst 1, 1) := by decide +kernel
theorem dX9_takesNode_51 : decode cX9_takesNode 51 = .ok (.goto 4, 3) := by decide +kernel
theorem dX9_takesNode_54 : decode cX9_takesNode 54 = .ok (.iconst 0, 1) := by decide +kernel
theorem dX9_takesNode_55 : decode cX9_takesNode 55 = .ok (.iconst 4, 1) := by decide +kernel
theorem dX9_takesNode_56 : decode cX9_takesNode 56 = .ok (.invokevirtual 189, 3) := by decide +kernel
theorem dX9_takesNode_59 : decode cX9_takesNode 59 = .ok (.aload_n 0, 1) := by decide +kernel
theorem dX9_takesNode_60 : decode cX9_takesNode 60 = .ok (.getfield 180, 3) := by decide +kernel
theorem dX9_takesNode_63 : decode cX9_takesNode 63 = .ok (.istore_n 2, 1) := by decide +kernel
theorem dX9_takesNode_64 : decode cX9_takesNode 64 = .ok (.aload_n 0, 1) := by decide +kernel
theorem dX9_takesNode_65 : decode cX9_takesNode 65 = .ok (.getfield 183, 3) := by decide +kernel
theorem dX9_takesNode_68 : decode cX9_takesNode 68 = .ok (.ifCond .ne 7, 3) := by decide +kernel
theorem dX9_takesNode_71 : decode cX9_takesNode 71 = .ok (.aload_n 0, 1) := by decide +kernel
theorem dX9_takesNode_72 : decode cX9_takesNode 72 = .ok (.invokevirtual 193, 3) := by decide +kernel
theorem dX9_takesNode_75 : decode cX9_takesNode 75 = .ok (.iload_n 2, 1) := by decide +kernel
theorem dX9_takesNode_76 : decode cX9_takesNode 76 = .ok (.ireturn, 1) := by decide +kernel
theorem dX9_semicolon_0 : decode cX9_semicolon 0 = .ok (.aload_n 0, 1) := by decide +kernel
theorem dX9_semicolon_1 : decode cX9_semicolon 1 = .ok (.aload_n 0, 1) := by decide +kernel
theorem dX9_semicolon_2 : decode cX9_semicolon 2 = .ok (.getfield 166, 3) := by decide +kernel
theorem dX9_semicolon_5 : decode cX9_semicolon 5 = .ok (.iconst 3, 1) := by decide +kernel
theorem dX9_semicolon_6 : decode cX9_semicolon 6 = .ok (.if_icmp .ne 7, 3) := by decide +kernel
theorem dX9_semicolon_9 : decode cX9_semicolon 9 = .ok (.iconst 1, 1) := by decide +kernel
theorem dX9_semicolon_10 : decode cX9_semicolon 10 = .ok (.goto 4, 3) := by decide +kernel
theorem dX9_semicolon_13 : decode cX9_semicolon 13 = .ok (.iconst 0, 1) := by decide +kernel
theorem dX9_semicolon_14 : decode cX9_semicolon 14 = .ok (.iconst 2, 1) := by decide +kernel
theorem dX9_semicolon_15 : decode cX9_semicolon 15 = .ok (.invokevirtual 189, 3) := by decide +kernel
theorem dX9_semicolon_18 : decode cX9_semicolon 18 = .ok (.aload_n 0, 1) := by decide +kernel
theorem dX9_semicolon_19 : decode cX9_semicolon 19 = .ok (.getfield 183, 3) := by decide +kernel
theorem dX9_semicolon_22 : decode cX9_semicolon 22 = .ok (.ifCond .ne 7, 3) := by decide +kernel
theorem dX9_semicolon_25 : decode cX9_semicolon 25 = .ok (.aload_n 0, 1) := by decide +kernel
theorem dX9_semicolon_26 : decode cX9_semicolon 26 = .ok (.invokevirtual 193, 3) := by decide +kernel
theorem dX9_semicolon_29 : decode cX9_semicolon 29 = .ok (.return_, 1) := by decide +kernel
theorem dX9_readsWire_0 : decode cX9_readsWire 0 = .ok (.aload_n 0, 1) := by decide +kernel
theorem dX9_readsWire_1 : decode cX9_readsWire 1 = .ok (.invokevirtual 193, 3) := by decide +kernel
theorem dX9_readsWire_4 : decode cX9_readsWire 4 = .ok (.aload_n 0, 1) := by decide +kernel
theorem dX9_readsWire_5 : decode cX9_readsWire 5 = .ok (.iconst (-1), 1) := by decide +kernel
theorem dX9_readsWire_6 : decode cX9_readsWire 6 = .ok (.invokevirtual 196, 3) := by decide +kernel
theorem dX9_readsWire_9 : decode cX9_readsWire 9 = .ok (.istore_n 2, 1) := by decide +kernel
theorem dX9_readsWire_10 : decode cX9_readsWire 10 = .ok (.aload_n 0, 1) := by decide +kernel
theorem dX9_readsWire_11 : decode cX9_readsWire 11 = .ok (.iload_n 2, 1) := by decide +kernel
theorem dX9_readsWire_12 : decode cX9_readsWire 12 = .ok (.invokevirtual 196, 3) := by decide +kernel
theorem dX9_readsWire_15 : decode cX9_readsWire 15 = .ok (.istore_n 3, 1) := by decide +kernel
theorem dX9_readsWire_16 : decode cX9_readsWire 16 = .ok (.aload_n 0, 1) := by decide +kernel
theorem dX9_readsWire_17 : decode cX9_readsWire 17 = .ok (.iconst 1, 1) := by decide +kernel
theorem dX9_readsWire_18 : decode cX9_readsWire 18 = .ok (.bipush 9, 2) := by decide +kernel
theorem dX9_readsWire_20 : decode cX9_readsWire 20 = .ok (.invokevirtual 199, 3) := by decide +kernel
theorem dX9_readsWire_23 : decode cX9_readsWire 23 = .ok (.istore 4, 2) := by decide +kernel
theorem dX9_readsWire_25 : decode cX9_readsWire 25 = .ok (.aload_n 0, 1) := by decide +kernel
theorem dX9_readsWire_26 : decode cX9_readsWire 26 = .ok (.getfield 183, 3) := by decide +kernel
theorem dX9_readsWire_29 : decode cX9_readsWire 29 = .ok (.ifCond .le 4, 3) := by decide +kernel
theorem dX9_readsWire_32 : decode cX9_readsWire 32 = .ok (.return_, 1) := by decide +kernel
theorem dX9_readsWire_33 : decode cX9_readsWire 33 = .ok (.aload_n 0, 1) := by decide +kernel
theorem dX9_readsWire_34 : decode cX9_readsWire 34 = .ok (.getfield 7, 3) := by decide +kernel
theorem dX9_readsWire_37 : decode cX9_readsWire 37 = .ok (.sipush 184, 3) := by decide +kernel
theorem dX9_readsWire_40 : decode cX9_readsWire 40 = .ok (.bipush 8, 2) := by decide +kernel
theorem dX9_readsWire_42 : decode cX9_readsWire 42 = .ok (.iload_n 2, 1) := by decide +kernel
theorem dX9_readsWire_43 : decode cX9_readsWire 43 = .ok (.imul, 1) := by decide +kernel
theorem dX9_readsWire_44 : decode cX9_readsWire 44 = .ok (.iadd, 1) := by decide +kernel
theorem dX9_readsWire_45 : decode cX9_readsWire 45 = .ok (.iload_n 3, 1) := by decide +kernel
theorem dX9_readsWire_46 : decode cX9_readsWire 46 = .ok (.iadd, 1) := by decide +kernel
theorem dX9_readsWire_47 : decode cX9_readsWire 47 = .ok (.iload 4, 2) := by decide +kernel
theorem dX9_readsWire_49 : decode cX9_readsWire 49 = .ok (.iastore, 1) := by decide +kernel
theorem dX9_readsWire_50 : decode cX9_readsWire 50 = .ok (.iload_n 1, 1) := by decide +kernel
theorem dX9_readsWire_51 : decode cX9_readsWire 51 = .ok (.ifCond .eq 20, 3) := by decide +kernel
theorem dX9_readsWire_54 : decode cX9_readsWire 54 = .ok (.aload_n 0, 1) := by decide +kernel
theorem dX9_readsWire_55 : decode cX9_readsWire 55 = .ok (.getfield 7, 3) := by decide +kernel
theorem dX9_readsWire_58 : decode cX9_readsWire 58 = .ok (.sipush 184, 3) := by decide +kernel
theorem dX9_readsWire_61 : decode cX9_readsWire 61 = .ok (.bipush 8, 2) := by decide +kernel
theorem dX9_readsWire_63 : decode cX9_readsWire 63 = .ok (.iload_n 3, 1) := by decide +kernel
theorem dX9_readsWire_64 : decode cX9_readsWire 64 = .ok (.imul, 1) := by decide +kernel
theorem dX9_readsWire_65 : decode cX9_readsWire 65 = .ok (.iadd, 1) := by decide +kernel
theorem dX9_readsWire_66 : decode cX9_readsWire 66 = .ok (.iload_n 2, 1) := by decide +kernel
theorem dX9_readsWire_67 : decode cX9_readsWire 67 = .ok (.iadd, 1) := by decide +kernel
theorem dX9_readsWire_68 : decode cX9_readsWire 68 = .ok (.iload 4, 2) := by decide +kernel
theorem dX9_readsWire_70 : decode cX9_readsWire 70 = .ok (.iastore, 1) := by decide +kernel
theorem dX9_readsWire_71 : decode cX9_readsWire 71 = .ok (.return_, 1) := by decide +kernel
theorem dX9_readsPlan_0 : decode cX9_readsPlan 0 = .ok (.aload_n 0, 1) := by decide +kernel
theorem dX9_readsPlan_1 : decode cX9_readsPlan 1 = .ok (.aload_n 0, 1) := by decide +kernel
theorem dX9_readsPlan_2 : decode cX9_readsPlan 2 = .ok (.getfield 7, 3) := by decide +kernel
theorem dX9_readsPlan_5 : decode cX9_readsPlan 5 = .ok (.iconst 1, 1) := by decide +kernel
theorem dX9_readsPlan_6 : decode cX9_readsPlan 6 = .ok (.iaload, 1) := by decide +kernel
theorem dX9_readsPlan_7 : decode cX9_readsPlan 7 = .ok (.bipush 40, 2) := by decide +kernel
theorem dX9_readsPlan_9 : decode cX9_readsPlan 9 = .ok (.if_icmp .ge 7, 3) := by decide +kernel
theorem dX9_readsPlan_12 : decode cX9_readsPlan 12 = .ok (.iconst 1, 1) := by decide +kernel
theorem dX9_readsPlan_13 : decode cX9_readsPlan 13 = .ok (.goto 4, 3) := by decide +kernel
theorem dX9_readsPlan_16 : decode cX9_readsPlan 16 = .ok (.iconst 0, 1) := by decide +kernel
theorem dX9_readsPlan_17 : decode cX9_readsPlan 17 = .ok (.iconst 5, 1) := by decide +kernel
theorem dX9_readsPlan_18 : decode cX9_readsPlan 18 = .ok (.invokevirtual 189, 3) := by decide +kernel
theorem dX9_readsPlan_21 : decode cX9_readsPlan 21 = .ok (.aload_n 0, 1) := by decide +kernel
theorem dX9_readsPlan_22 : decode cX9_readsPlan 22 = .ok (.getfield 183, 3) := by decide +kernel
theorem dX9_readsPlan_25 : decode cX9_readsPlan 25 = .ok (.ifCond .le 4, 3) := by decide +kernel
theorem dX9_readsPlan_28 : decode cX9_readsPlan 28 = .ok (.return_, 1) := by decide +kernel
theorem dX9_readsPlan_29 : decode cX9_readsPlan 29 = .ok (.aload_n 0, 1) := by decide +kernel
theorem dX9_readsPlan_30 : decode cX9_readsPlan 30 = .ok (.invokevirtual 193, 3) := by decide +kernel
theorem dX9_readsPlan_33 : decode cX9_readsPlan 33 = .ok (.aload_n 0, 1) := by decide +kernel
theorem dX9_readsPlan_34 : decode cX9_readsPlan 34 = .ok (.iconst (-1), 1) := by decide +kernel
theorem dX9_readsPlan_35 : decode cX9_readsPlan 35 = .ok (.invokevirtual 196, 3) := by decide +kernel
theorem dX9_readsPlan_38 : decode cX9_readsPlan 38 = .ok (.istore_n 1, 1) := by decide +kernel
theorem dX9_readsPlan_39 : decode cX9_readsPlan 39 = .ok (.aload_n 0, 1) := by decide +kernel
theorem dX9_readsPlan_40 : decode cX9_readsPlan 40 = .ok (.iconst 1, 1) := by decide +kernel
theorem dX9_readsPlan_41 : decode cX9_readsPlan 41 = .ok (.sipush 200, 3) := by decide +kernel
theorem dX9_readsPlan_44 : decode cX9_readsPlan 44 = .ok (.invokevirtual 199, 3) := by decide +kernel
theorem dX9_readsPlan_47 : decode cX9_readsPlan 47 = .ok (.istore_n 2, 1) := by decide +kernel
theorem dX9_readsPlan_48 : decode cX9_readsPlan 48 = .ok (.aload_n 0, 1) := by decide +kernel
theorem dX9_readsPlan_49 : decode cX9_readsPlan 49 = .ok (.iload_n 1, 1) := by decide +kernel
theorem dX9_readsPlan_50 : decode cX9_readsPlan 50 = .ok (.invokevirtual 196, 3) := by decide +kernel
theorem dX9_readsPlan_53 : decode cX9_readsPlan 53 = .ok (.istore_n 3, 1) := by decide +kernel
theorem dX9_readsPlan_54 : decode cX9_readsPlan 54 = .ok (.aload_n 0, 1) := by decide +kernel
theorem dX9_readsPlan_55 : decode cX9_readsPlan 55 = .ok (.iconst 1, 1) := by decide +kernel
theorem dX9_readsPlan_56 : decode cX9_readsPlan 56 = .ok (.bipush 20, 2) := by decide +kernel
theorem dX9_readsPlan_58 : decode cX9_readsPlan 58 = .ok (.invokevirtual 199, 3) := by decide +kernel
theorem dX9_readsPlan_61 : decode cX9_readsPlan 61 = .ok (.istore 4, 2) := by decide +kernel
theorem dX9_readsPlan_63 : decode cX9_readsPlan 63 = .ok (.aload_n 0, 1) := by decide +kernel
theorem dX9_readsPlan_64 : decode cX9_readsPlan 64 = .ok (.getfield 183, 3) := by decide +kernel
theorem dX9_readsPlan_67 : decode cX9_readsPlan 67 = .ok (.ifCond .ne 12, 3) := by decide +kernel
theorem dX9_readsPlan_70 : decode cX9_readsPlan 70 = .ok (.aload_n 0, 1) := by decide +kernel
theorem dX9_readsPlan_71 : decode cX9_readsPlan 71 = .ok (.iload_n 1, 1) := by decide +kernel
theorem dX9_readsPlan_72 : decode cX9_readsPlan 72 = .ok (.iload_n 2, 1) := by decide +kernel
theorem dX9_readsPlan_73 : decode cX9_readsPlan 73 = .ok (.iload_n 3, 1) := by decide +kernel
theorem dX9_readsPlan_74 : decode cX9_readsPlan 74 = .ok (.iload 4, 2) := by decide +kernel
theorem dX9_readsPlan_76 : decode cX9_readsPlan 76 = .ok (.invokevirtual 202, 3) := by decide +kernel
theorem dX9_readsPlan_79 : decode cX9_readsPlan 79 = .ok (.return_, 1) := by decide +kernel
theorem dX9_addsRow_0 : decode cX9_addsRow 0 = .ok (.sipush 504, 3) := by decide +kernel
theorem dX9_addsRow_3 : decode cX9_addsRow 3 = .ok (.iconst 4, 1) := by decide +kernel
theorem dX9_addsRow_4 : decode cX9_addsRow 4 = .ok (.aload_n 0, 1) := by decide +kernel
theorem dX9_addsRow_5 : decode cX9_addsRow 5 = .ok (.getfield 7, 3) := by decide +kernel
theorem dX9_addsRow_8 : decode cX9_addsRow 8 = .ok (.iconst 1, 1) := by decide +kernel
theorem dX9_addsRow_9 : decode cX9_addsRow 9 = .ok (.iaload, 1) := by decide +kernel
theorem dX9_addsRow_10 : decode cX9_addsRow 10 = .ok (.imul, 1) := by decide +kernel
theorem dX9_addsRow_11 : decode cX9_addsRow 11 = .ok (.iadd, 1) := by decide +kernel
theorem dX9_addsRow_12 : decode cX9_addsRow 12 = .ok (.istore 5, 2) := by decide +kernel
theorem dX9_addsRow_14 : decode cX9_addsRow 14 = .ok (.aload_n 0, 1) := by decide +kernel
theorem dX9_addsRow_15 : decode cX9_addsRow 15 = .ok (.getfield 7, 3) := by decide +kernel
theorem dX9_addsRow_18 : decode cX9_addsRow 18 = .ok (.iload 5, 2) := by decide +kernel
theorem dX9_addsRow_20 : decode cX9_addsRow 20 = .ok (.iload_n 1, 1) := by decide +kernel
theorem dX9_addsRow_21 : decode cX9_addsRow 21 = .ok (.iastore, 1) := by decide +kernel
theorem dX9_addsRow_22 : decode cX9_addsRow 22 = .ok (.aload_n 0, 1) := by decide +kernel
theorem dX9_addsRow_23 : decode cX9_addsRow 23 = .ok (.getfield 7, 3) := by decide +kernel
theorem dX9_addsRow_26 : decode cX9_addsRow 26 = .ok (.iload 5, 2) := by decide +kernel
theorem dX9_addsRow_28 : decode cX9_addsRow 28 = .ok (.iconst 1, 1) := by decide +kernel
theorem dX9_addsRow_29 : decode cX9_addsRow 29 = .ok (.iadd, 1) := by decide +kernel
theorem dX9_addsRow_30 : decode cX9_addsRow 30 = .ok (.iload_n 2, 1) := by decide +kernel
theorem dX9_addsRow_31 : decode cX9_addsRow 31 = .ok (.iastore, 1) := by decide +kernel
theorem dX9_addsRow_32 : decode cX9_addsRow 32 = .ok (.aload_n 0, 1) := by decide +kernel
theorem dX9_addsRow_33 : decode cX9_addsRow 33 = .ok (.getfield 7, 3) := by decide +kernel
theorem dX9_addsRow_36 : decode cX9_addsRow 36 = .ok (.iload 5, 2) := by decide +kernel
theorem dX9_addsRow_38 : decode cX9_addsRow 38 = .ok (.iconst 2, 1) := by decide +kernel
theorem dX9_addsRow_39 : decode cX9_addsRow 39 = .ok (.iadd, 1) := by decide +kernel
theorem dX9_addsRow_40 : decode cX9_addsRow 40 = .ok (.iload_n 3, 1) := by decide +kernel
theorem dX9_addsRow_41 : decode cX9_addsRow 41 = .ok (.iastore, 1) := by decide +kernel
theorem dX9_addsRow_42 : decode cX9_addsRow 42 = .ok (.aload_n 0, 1) := by decide +kernel
theorem dX9_addsRow_43 : decode cX9_addsRow 43 = .ok (.getfield 7, 3) := by decide +kernel
theorem dX9_addsRow_46 : decode cX9_addsRow 46 = .ok (.iload 5, 2) := by decide +kernel
theorem dX9_addsRow_48 : decode cX9_addsRow 48 = .ok (.iconst 3, 1) := by decide +kernel
theorem dX9_addsRow_49 : decode cX9_addsRow 49 = .ok (.iadd, 1) := by decide +kernel
theorem dX9_addsRow_50 : decode cX9_addsRow 50 = .ok (.iload 4, 2) := by decide +kernel
theorem dX9_addsRow_52 : decode cX9_addsRow 52 = .ok (.iastore, 1) := by decide +kernel
theorem dX9_addsRow_53 : decode cX9_addsRow 53 = .ok (.aload_n 0, 1) := by decide +kernel
theorem dX9_addsRow_54 : decode cX9_addsRow 54 = .ok (.getfield 7, 3) := by decide +kernel
theorem dX9_addsRow_57 : decode cX9_addsRow 57 = .ok (.iconst 1, 1) := by decide +kernel
theorem dX9_addsRow_58 : decode cX9_addsRow 58 = .ok (.dup2, 1) := by decide +kernel
theorem dX9_addsRow_59 : decode cX9_addsRow 59 = .ok (.iaload, 1) := by decide +kernel
theorem dX9_addsRow_60 : decode cX9_addsRow 60 = .ok (.iconst 1, 1) := by decide +kernel
theorem dX9_addsRow_61 : decode cX9_addsRow 61 = .ok (.iadd, 1) := by decide +kernel
theorem dX9_addsRow_62 : decode cX9_addsRow 62 = .ok (.iastore, 1) := by decide +kernel
theorem dX9_addsRow_63 : decode cX9_addsRow 63 = .ok (.return_, 1) := by decide +kernel
theorem dX9_readsLine_0 : decode cX9_readsLine 0 = .ok (.aload_n 0, 1) := by decide +kernel
theorem dX9_readsLine_1 : decode cX9_readsLine 1 = .ok (.ldc2_w 205, 3) := by decide +kernel
theorem dX9_readsLine_4 : decode cX9_readsLine 4 = .ok (.invokevirtual 207, 3) := by decide +kernel
theorem dX9_readsLine_7 : decode cX9_readsLine 7 = .ok (.ifCond .eq 11, 3) := by decide +kernel
theorem dX9_readsLine_10 : decode cX9_readsLine 10 = .ok (.aload_n 0, 1) := by decide +kernel
theorem dX9_readsLine_11 : decode cX9_readsLine 11 = .ok (.iconst 0, 1) := by decide +kernel
theorem dX9_readsLine_12 : decode cX9_readsLine 12 = .ok (.invokevirtual 211, 3) := by decide +kernel
theorem dX9_readsLine_15 : decode cX9_readsLine 15 = .ok (.goto 44, 3) := by decide +kernel
theorem dX9_readsLine_18 : decode cX9_readsLine 18 = .ok (.aload_n 0, 1) := by decide +kernel
theorem dX9_readsLine_19 : decode cX9_readsLine 19 = .ok (.ldc2_w 215, 3) := by decide +kernel
theorem dX9_readsLine_22 : decode cX9_readsLine 22 = .ok (.invokevirtual 207, 3) := by decide +kernel
theorem dX9_readsLine_25 : decode cX9_readsLine 25 = .ok (.ifCond .eq 11, 3) := by decide +kernel
theorem dX9_readsLine_28 : decode cX9_readsLine 28 = .ok (.aload_n 0, 1) := by decide +kernel
theorem dX9_readsLine_29 : decode cX9_readsLine 29 = .ok (.iconst 1, 1) := by decide +kernel
theorem dX9_readsLine_30 : decode cX9_readsLine 30 = .ok (.invokevirtual 211, 3) := by decide +kernel
theorem dX9_readsLine_33 : decode cX9_readsLine 33 = .ok (.goto 26, 3) := by decide +kernel
theorem dX9_readsLine_36 : decode cX9_readsLine 36 = .ok (.aload_n 0, 1) := by decide +kernel
theorem dX9_readsLine_37 : decode cX9_readsLine 37 = .ok (.ldc2_w 217, 3) := by decide +kernel
theorem dX9_readsLine_40 : decode cX9_readsLine 40 = .ok (.invokevirtual 207, 3) := by decide +kernel
theorem dX9_readsLine_43 : decode cX9_readsLine 43 = .ok (.ifCond .eq 10, 3) := by decide +kernel
theorem dX9_readsLine_46 : decode cX9_readsLine 46 = .ok (.aload_n 0, 1) := by decide +kernel
theorem dX9_readsLine_47 : decode cX9_readsLine 47 = .ok (.invokevirtual 219, 3) := by decide +kernel
theorem dX9_readsLine_50 : decode cX9_readsLine 50 = .ok (.goto 9, 3) := by decide +kernel
theorem dX9_readsLine_53 : decode cX9_readsLine 53 = .ok (.aload_n 0, 1) := by decide +kernel
theorem dX9_readsLine_54 : decode cX9_readsLine 54 = .ok (.iconst 0, 1) := by decide +kernel
theorem dX9_readsLine_55 : decode cX9_readsLine 55 = .ok (.iconst 2, 1) := by decide +kernel
theorem dX9_readsLine_56 : decode cX9_readsLine 56 = .ok (.invokevirtual 189, 3) := by decide +kernel
theorem dX9_readsLine_59 : decode cX9_readsLine 59 = .ok (.aload_n 0, 1) := by decide +kernel
theorem dX9_readsLine_60 : decode cX9_readsLine 60 = .ok (.invokevirtual 222, 3) := by decide +kernel
theorem dX9_readsLine_63 : decode cX9_readsLine 63 = .ok (.return_, 1) := by decide +kernel
theorem dX9_swaps_0 : decode cX9_swaps 0 = .ok (.aload_n 0, 1) := by decide +kernel
theorem dX9_swaps_1 : decode cX9_swaps 1 = .ok (.getfield 7, 3) := by decide +kernel
theorem dX9_swaps_4 : decode cX9_swaps 4 = .ok (.astore_n 1, 1) := by decide +kernel
theorem dX9_swaps_5 : decode cX9_swaps 5 = .ok (.aload_n 0, 1) := by decide +kernel
theorem dX9_swaps_6 : decode cX9_swaps 6 = .ok (.aload_n 0, 1) := by decide +kernel
theorem dX9_swaps_7 : decode cX9_swaps 7 = .ok (.getfield 13, 3) := by decide +kernel
theorem dX9_swaps_10 : decode cX9_swaps 10 = .ok (.putfield 7, 3) := by decide +kernel
theorem dX9_swaps_13 : decode cX9_swaps 13 = .ok (.aload_n 0, 1) := by decide +kernel
theorem dX9_swaps_14 : decode cX9_swaps 14 = .ok (.aload_n 1, 1) := by decide +kernel
theorem dX9_swaps_15 : decode cX9_swaps 15 = .ok (.putfield 13, 3) := by decide +kernel
theorem dX9_swaps_18 : decode cX9_swaps 18 = .ok (.return_, 1) := by decide +kernel
theorem dX9_load_0 : decode cX9_load 0 = .ok (.aload_n 0, 1) := by decide +kernel
theorem dX9_load_1 : decode cX9_load 1 = .ok (.iconst 0, 1) := by decide +kernel
theorem dX9_load_2 : decode cX9_load 2 = .ok (.putfield 37, 3) := by decide +kernel
theorem dX9_load_5 : decode cX9_load 5 = .ok (.aload_n 0, 1) := by decide +kernel
theorem dX9_load_6 : decode cX9_load 6 = .ok (.iconst 0, 1) := by decide +kernel
theorem dX9_load_7 : decode cX9_load 7 = .ok (.putfield 40, 3) := by decide +kernel
theorem dX9_load_10 : decode cX9_load 10 = .ok (.iload_n 1, 1) := by decide +kernel
theorem dX9_load_11 : decode cX9_load 11 = .ok (.iconst 0, 1) := by decide +kernel
theorem dX9_load_12 : decode cX9_load 12 = .ok (.aload_n 0, 1) := by decide +kernel
theorem dX9_load_13 : decode cX9_load 13 = .ok (.getfield 151, 3) := by decide +kernel
theorem dX9_load_16 : decode cX9_load 16 = .ok (.invokestatic 43, 3) := by decide +kernel
theorem dX9_load_19 : decode cX9_load 19 = .ok (.ifCond .ne 9, 3) := by decide +kernel
theorem dX9_load_22 : decode cX9_load 22 = .ok (.aload_n 0, 1) := by decide +kernel
theorem dX9_load_23 : decode cX9_load 23 = .ok (.iconst 1, 1) := by decide +kernel
theorem dX9_load_24 : decode cX9_load 24 = .ok (.invokevirtual 225, 3) := by decide +kernel
theorem dX9_load_27 : decode cX9_load 27 = .ok (.ireturn, 1) := by decide +kernel
theorem dX9_load_28 : decode cX9_load 28 = .ok (.aload_n 0, 1) := by decide +kernel
theorem dX9_load_29 : decode cX9_load 29 = .ok (.iload_n 1, 1) := by decide +kernel
theorem dX9_load_30 : decode cX9_load 30 = .ok (.putfield 157, 3) := by decide +kernel
theorem dX9_load_33 : decode cX9_load 33 = .ok (.aload_n 0, 1) := by decide +kernel
theorem dX9_load_34 : decode cX9_load 34 = .ok (.iconst 0, 1) := by decide +kernel
theorem dX9_load_35 : decode cX9_load 35 = .ok (.putfield 160, 3) := by decide +kernel
theorem dX9_load_38 : decode cX9_load 38 = .ok (.aload_n 0, 1) := by decide +kernel
theorem dX9_load_39 : decode cX9_load 39 = .ok (.iconst 0, 1) := by decide +kernel
theorem dX9_load_40 : decode cX9_load 40 = .ok (.putfield 183, 3) := by decide +kernel
theorem dX9_load_43 : decode cX9_load 43 = .ok (.aload_n 0, 1) := by decide +kernel
theorem dX9_load_44 : decode cX9_load 44 = .ok (.invokevirtual 228, 3) := by decide +kernel
theorem dX9_load_47 : decode cX9_load 47 = .ok (.aload_n 0, 1) := by decide +kernel
theorem dX9_load_48 : decode cX9_load 48 = .ok (.iconst 2, 1) := by decide +kernel
theorem dX9_load_49 : decode cX9_load 49 = .ok (.invokevirtual 33, 3) := by decide +kernel
theorem dX9_load_52 : decode cX9_load 52 = .ok (.aload_n 0, 1) := by decide +kernel
theorem dX9_load_53 : decode cX9_load 53 = .ok (.invokevirtual 193, 3) := by decide +kernel
theorem dX9_load_56 : decode cX9_load 56 = .ok (.aload_n 0, 1) := by decide +kernel
theorem dX9_load_57 : decode cX9_load 57 = .ok (.aload_n 0, 1) := by decide +kernel
theorem dX9_load_58 : decode cX9_load 58 = .ok (.ldc2_w 231, 3) := by decide +kernel
theorem dX9_load_61 : decode cX9_load 61 = .ok (.invokevirtual 207, 3) := by decide +kernel
theorem dX9_load_64 : decode cX9_load 64 = .ok (.iconst 2, 1) := by decide +kernel
theorem dX9_load_65 : decode cX9_load 65 = .ok (.invokevirtual 189, 3) := by decide +kernel
theorem dX9_load_68 : decode cX9_load 68 = .ok (.aload_n 0, 1) := by decide +kernel
theorem dX9_load_69 : decode cX9_load 69 = .ok (.getfield 183, 3) := by decide +kernel
theorem dX9_load_72 : decode cX9_load 72 = .ok (.ifCond .ne 7, 3) := by decide +kernel
theorem dX9_load_75 : decode cX9_load 75 = .ok (.aload_n 0, 1) := by decide +kernel
theorem dX9_load_76 : decode cX9_load 76 = .ok (.invokevirtual 193, 3) := by decide +kernel
theorem dX9_load_79 : decode cX9_load 79 = .ok (.aload_n 0, 1) := by decide +kernel
theorem dX9_load_80 : decode cX9_load 80 = .ok (.getfield 7, 3) := by decide +kernel
theorem dX9_load_83 : decode cX9_load 83 = .ok (.iconst 0, 1) := by decide +kernel
theorem dX9_load_84 : decode cX9_load 84 = .ok (.aload_n 0, 1) := by decide +kernel
theorem dX9_load_85 : decode cX9_load 85 = .ok (.iconst 2, 1) := by decide +kernel
theorem dX9_load_86 : decode cX9_load 86 = .ok (.bipush 8, 2) := by decide +kernel
theorem dX9_load_88 : decode cX9_load 88 = .ok (.invokevirtual 199, 3) := by decide +kernel
theorem dX9_load_91 : decode cX9_load 91 = .ok (.iastore, 1) := by decide +kernel
theorem dX9_load_92 : decode cX9_load 92 = .ok (.aload_n 0, 1) := by decide +kernel
theorem dX9_load_93 : decode cX9_load 93 = .ok (.invokevirtual 222, 3) := by decide +kernel
theorem dX9_load_96 : decode cX9_load 96 = .ok (.aload_n 0, 1) := by decide +kernel
theorem dX9_load_97 : decode cX9_load 97 = .ok (.getfield 183, 3) := by decide +kernel
theorem dX9_load_100 : decode cX9_load 100 = .ok (.ifCond .ne 17, 3) := by decide +kernel
theorem dX9_load_103 : decode cX9_load 103 = .ok (.aload_n 0, 1) := by decide +kernel
theorem dX9_load_104 : decode cX9_load 104 = .ok (.getfield 166, 3) := by decide +kernel
theorem dX9_load_107 : decode cX9_load 107 = .ok (.ifCond .eq 10, 3) := by decide +kernel
theorem dX9_load_110 : decode cX9_load 110 = .ok (.aload_n 0, 1) := by decide +kernel
theorem dX9_load_111 : decode cX9_load 111 = .ok (.invokevirtual 233, 3) := by decide +kernel
theorem dX9_load_114 : decode cX9_load 114 = .ok (.goto (-18), 3) := by decide +kernel
theorem dX9_load_117 : decode cX9_load 117 = .ok (.aload_n 0, 1) := by decide +kernel
theorem dX9_load_118 : decode cX9_load 118 = .ok (.iconst 0, 1) := by decide +kernel
theorem dX9_load_119 : decode cX9_load 119 = .ok (.putfield 151, 3) := by decide +kernel
theorem dX9_load_122 : decode cX9_load 122 = .ok (.aload_n 0, 1) := by decide +kernel
theorem dX9_load_123 : decode cX9_load 123 = .ok (.aload_n 0, 1) := by decide +kernel
theorem dX9_load_124 : decode cX9_load 124 = .ok (.getfield 183, 3) := by decide +kernel
theorem dX9_load_127 : decode cX9_load 127 = .ok (.putfield 26, 3) := by decide +kernel
theorem dX9_load_130 : decode cX9_load 130 = .ok (.aload_n 0, 1) := by decide +kernel
theorem dX9_load_131 : decode cX9_load 131 = .ok (.aload_n 0, 1) := by decide +kernel
theorem dX9_load_132 : decode cX9_load 132 = .ok (.getfield 183, 3) := by decide +kernel
theorem dX9_load_135 : decode cX9_load 135 = .ok (.ifCond .le 10, 3) := by decide +kernel
theorem dX9_load_138 : decode cX9_load 138 = .ok (.aload_n 0, 1) := by decide +kernel
theorem dX9_load_139 : decode cX9_load 139 = .ok (.getfield 186, 3) := by decide +kernel
theorem dX9_load_142 : decode cX9_load 142 = .ok (.goto 4, 3) := by decide +kernel
theorem dX9_load_145 : decode cX9_load 145 = .ok (.iconst (-1), 1) := by decide +kernel
theorem dX9_load_146 : decode cX9_load 146 = .ok (.putfield 30, 3) := by decide +kernel
theorem dX9_load_149 : decode cX9_load 149 = .ok (.aload_n 0, 1) := by decide +kernel
theorem dX9_load_150 : decode cX9_load 150 = .ok (.getfield 183, 3) := by decide +kernel
theorem dX9_load_153 : decode cX9_load 153 = .ok (.ifCond .ne 10, 3) := by decide +kernel
theorem dX9_load_156 : decode cX9_load 156 = .ok (.aload_n 0, 1) := by decide +kernel
theorem dX9_load_157 : decode cX9_load 157 = .ok (.getfield 7, 3) := by decide +kernel
theorem dX9_load_160 : decode cX9_load 160 = .ok (.iconst 0, 1) := by decide +kernel
theorem dX9_load_161 : decode cX9_load 161 = .ok (.iaload, 1) := by decide +kernel
theorem dX9_load_162 : decode cX9_load 162 = .ok (.ireturn, 1) := by decide +kernel
theorem dX9_load_163 : decode cX9_load 163 = .ok (.aload_n 0, 1) := by decide +kernel
theorem dX9_load_164 : decode cX9_load 164 = .ok (.invokevirtual 228, 3) := by decide +kernel
theorem dX9_load_167 : decode cX9_load 167 = .ok (.aload_n 0, 1) := by decide +kernel
theorem dX9_load_168 : decode cX9_load 168 = .ok (.bipush 9, 2) := by decide +kernel
theorem dX9_load_170 : decode cX9_load 170 = .ok (.invokevirtual 225, 3) := by decide +kernel
theorem dX9_load_173 : decode cX9_load 173 = .ok (.ireturn, 1) := by decide +kernel
theorem dX9_fault_0 : decode cX9_fault 0 = .ok (.aload_n 0, 1) := by decide +kernel
theorem dX9_fault_1 : decode cX9_fault 1 = .ok (.iconst 0, 1) := by decide +kernel
theorem dX9_fault_2 : decode cX9_fault 2 = .ok (.putfield 37, 3) := by decide +kernel
theorem dX9_fault_5 : decode cX9_fault 5 = .ok (.iload_n 1, 1) := by decide +kernel
theorem dX9_fault_6 : decode cX9_fault 6 = .ok (.ifCond .ne 10, 3) := by decide +kernel
theorem dX9_fault_9 : decode cX9_fault 9 = .ok (.aload_n 0, 1) := by decide +kernel
theorem dX9_fault_10 : decode cX9_fault 10 = .ok (.getfield 26, 3) := by decide +kernel
theorem dX9_fault_13 : decode cX9_fault 13 = .ok (.goto 16, 3) := by decide +kernel
theorem dX9_fault_16 : decode cX9_fault 16 = .ok (.iload_n 1, 1) := by decide +kernel
theorem dX9_fault_17 : decode cX9_fault 17 = .ok (.iconst 1, 1) := by decide +kernel
theorem dX9_fault_18 : decode cX9_fault 18 = .ok (.if_icmp .ne 10, 3) := by decide +kernel
theorem dX9_fault_21 : decode cX9_fault 21 = .ok (.aload_n 0, 1) := by decide +kernel
theorem dX9_fault_22 : decode cX9_fault 22 = .ok (.getfield 30, 3) := by decide +kernel
theorem dX9_fault_25 : decode cX9_fault 25 = .ok (.goto 4, 3) := by decide +kernel
theorem dX9_fault_28 : decode cX9_fault 28 = .ok (.iconst (-1), 1) := by decide +kernel
theorem dX9_fault_29 : decode cX9_fault 29 = .ok (.ireturn, 1) := by decide +kernel
theorem dX9_many_0 : decode cX9_many 0 = .ok (.aload_n 0, 1) := by decide +kernel
theorem dX9_many_1 : decode cX9_many 1 = .ok (.iconst 0, 1) := by decide +kernel
theorem dX9_many_2 : decode cX9_many 2 = .ok (.putfield 37, 3) := by decide +kernel
theorem dX9_many_5 : decode cX9_many 5 = .ok (.aload_n 0, 1) := by decide +kernel
theorem dX9_many_6 : decode cX9_many 6 = .ok (.iconst 0, 1) := by decide +kernel
theorem dX9_many_7 : decode cX9_many 7 = .ok (.putfield 40, 3) := by decide +kernel
theorem dX9_many_10 : decode cX9_many 10 = .ok (.iload_n 1, 1) := by decide +kernel
theorem dX9_many_11 : decode cX9_many 11 = .ok (.tableswitch 140 0 11 #[61, 68, 75, 82, 87, 93, 100, 106, 112, 120, 127, 135], 61) := by decide +kernel
theorem dX9_many_72 : decode cX9_many 72 = .ok (.aload_n 0, 1) := by decide +kernel
theorem dX9_many_73 : decode cX9_many 73 = .ok (.getfield 7, 3) := by decide +kernel
theorem dX9_many_76 : decode cX9_many 76 = .ok (.iconst 0, 1) := by decide +kernel
theorem dX9_many_77 : decode cX9_many 77 = .ok (.iaload, 1) := by decide +kernel
theorem dX9_many_78 : decode cX9_many 78 = .ok (.ireturn, 1) := by decide +kernel
theorem dX9_many_79 : decode cX9_many 79 = .ok (.aload_n 0, 1) := by decide +kernel
theorem dX9_many_80 : decode cX9_many 80 = .ok (.getfield 7, 3) := by decide +kernel
theorem dX9_many_83 : decode cX9_many 83 = .ok (.iconst 1, 1) := by decide +kernel
theorem dX9_many_84 : decode cX9_many 84 = .ok (.iaload, 1) := by decide +kernel
theorem dX9_many_85 : decode cX9_many 85 = .ok (.ireturn, 1) := by decide +kernel
theorem dX9_many_86 : decode cX9_many 86 = .ok (.aload_n 0, 1) := by decide +kernel
theorem dX9_many_87 : decode cX9_many 87 = .ok (.getfield 7, 3) := by decide +kernel
theorem dX9_many_90 : decode cX9_many 90 = .ok (.iconst 4, 1) := by decide +kernel
theorem dX9_many_91 : decode cX9_many 91 = .ok (.iaload, 1) := by decide +kernel
theorem dX9_many_92 : decode cX9_many 92 = .ok (.ireturn, 1) := by decide +kernel
theorem dX9_many_93 : decode cX9_many 93 = .ok (.aload_n 0, 1) := by decide +kernel
theorem dX9_many_94 : decode cX9_many 94 = .ok (.invokevirtual 123, 3) := by decide +kernel
theorem dX9_many_97 : decode cX9_many 97 = .ok (.ireturn, 1) := by decide +kernel
theorem dX9_many_98 : decode cX9_many 98 = .ok (.aload_n 0, 1) := by decide +kernel
theorem dX9_many_99 : decode cX9_many 99 = .ok (.iconst 0, 1) := by decide +kernel
theorem dX9_many_100 : decode cX9_many 100 = .ok (.invokevirtual 131, 3) := by decide +kernel
theorem dX9_many_103 : decode cX9_many 103 = .ok (.ireturn, 1) := by decide +kernel
theorem dX9_many_104 : decode cX9_many 104 = .ok (.aload_n 0, 1) := by decide +kernel
theorem dX9_many_105 : decode cX9_many 105 = .ok (.bipush 8, 2) := by decide +kernel
theorem dX9_many_107 : decode cX9_many 107 = .ok (.invokevirtual 131, 3) := by decide +kernel
theorem dX9_many_110 : decode cX9_many 110 = .ok (.ireturn, 1) := by decide +kernel
theorem dX9_many_111 : decode cX9_many 111 = .ok (.aload_n 0, 1) := by decide +kernel
theorem dX9_many_112 : decode cX9_many 112 = .ok (.iconst 1, 1) := by decide +kernel
theorem dX9_many_113 : decode cX9_many 113 = .ok (.invokevirtual 127, 3) := by decide +kernel
theorem dX9_many_116 : decode cX9_many 116 = .ok (.ireturn, 1) := by decide +kernel
theorem dX9_many_117 : decode cX9_many 117 = .ok (.aload_n 0, 1) := by decide +kernel
theorem dX9_many_118 : decode cX9_many 118 = .ok (.iconst 0, 1) := by decide +kernel
theorem dX9_many_119 : decode cX9_many 119 = .ok (.invokevirtual 127, 3) := by decide +kernel
theorem dX9_many_122 : decode cX9_many 122 = .ok (.ireturn, 1) := by decide +kernel
theorem dX9_many_123 : decode cX9_many 123 = .ok (.aload_n 0, 1) := by decide +kernel
theorem dX9_many_124 : decode cX9_many 124 = .ok (.getfield 7, 3) := by decide +kernel
theorem dX9_many_127 : decode cX9_many 127 = .ok (.bipush 7, 2) := by decide +kernel
theorem dX9_many_129 : decode cX9_many 129 = .ok (.iaload, 1) := by decide +kernel
theorem dX9_many_130 : decode cX9_many 130 = .ok (.ireturn, 1) := by decide +kernel
theorem dX9_many_131 : decode cX9_many 131 = .ok (.aload_n 0, 1) := by decide +kernel
theorem dX9_many_132 : decode cX9_many 132 = .ok (.getfield 7, 3) := by decide +kernel
theorem dX9_many_135 : decode cX9_many 135 = .ok (.iconst 5, 1) := by decide +kernel
theorem dX9_many_136 : decode cX9_many 136 = .ok (.iaload, 1) := by decide +kernel
theorem dX9_many_137 : decode cX9_many 137 = .ok (.ireturn, 1) := by decide +kernel
theorem dX9_many_138 : decode cX9_many 138 = .ok (.aload_n 0, 1) := by decide +kernel
theorem dX9_many_139 : decode cX9_many 139 = .ok (.getfield 7, 3) := by decide +kernel
theorem dX9_many_142 : decode cX9_many 142 = .ok (.bipush 6, 2) := by decide +kernel
theorem dX9_many_144 : decode cX9_many 144 = .ok (.iaload, 1) := by decide +kernel
theorem dX9_many_145 : decode cX9_many 145 = .ok (.ireturn, 1) := by decide +kernel
theorem dX9_many_146 : decode cX9_many 146 = .ok (.aload_n 0, 1) := by decide +kernel
theorem dX9_many_147 : decode cX9_many 147 = .ok (.getfield 236, 3) := by decide +kernel
theorem dX9_many_150 : decode cX9_many 150 = .ok (.ireturn, 1) := by decide +kernel
theorem dX9_many_151 : decode cX9_many 151 = .ok (.aload_n 0, 1) := by decide +kernel
theorem dX9_many_152 : decode cX9_many 152 = .ok (.iconst 1, 1) := by decide +kernel
theorem dX9_many_153 : decode cX9_many 153 = .ok (.invokevirtual 225, 3) := by decide +kernel
theorem dX9_many_156 : decode cX9_many 156 = .ok (.ireturn, 1) := by decide +kernel
theorem dX9_childrenOf_0 : decode cX9_childrenOf 0 = .ok (.iconst 0, 1) := by decide +kernel
theorem dX9_childrenOf_1 : decode cX9_childrenOf 1 = .ok (.istore_n 2, 1) := by decide +kernel
theorem dX9_childrenOf_2 : decode cX9_childrenOf 2 = .ok (.iconst 0, 1) := by decide +kernel
theorem dX9_childrenOf_3 : decode cX9_childrenOf 3 = .ok (.istore_n 3, 1) := by decide +kernel
theorem dX9_childrenOf_4 : decode cX9_childrenOf 4 = .ok (.iload_n 3, 1) := by decide +kernel
theorem dX9_childrenOf_5 : decode cX9_childrenOf 5 = .ok (.aload_n 0, 1) := by decide +kernel
theorem dX9_childrenOf_6 : decode cX9_childrenOf 6 = .ok (.getfield 7, 3) := by decide +kernel
theorem dX9_childrenOf_9 : decode cX9_childrenOf 9 = .ok (.iconst 0, 1) := by decide +kernel
theorem dX9_childrenOf_10 : decode cX9_childrenOf 10 = .ok (.iaload, 1) := by decide +kernel
theorem dX9_childrenOf_11 : decode cX9_childrenOf 11 = .ok (.if_icmp .ge 30, 3) := by decide +kernel
theorem dX9_childrenOf_14 : decode cX9_childrenOf 14 = .ok (.iload_n 2, 1) := by decide +kernel
theorem dX9_childrenOf_15 : decode cX9_childrenOf 15 = .ok (.aload_n 0, 1) := by decide +kernel
theorem dX9_childrenOf_16 : decode cX9_childrenOf 16 = .ok (.iload_n 3, 1) := by decide +kernel
theorem dX9_childrenOf_17 : decode cX9_childrenOf 17 = .ok (.bipush 32, 2) := by decide +kernel
theorem dX9_childrenOf_19 : decode cX9_childrenOf 19 = .ok (.invokevirtual 47, 3) := by decide +kernel
theorem dX9_childrenOf_22 : decode cX9_childrenOf 22 = .ok (.iload_n 1, 1) := by decide +kernel
theorem dX9_childrenOf_23 : decode cX9_childrenOf 23 = .ok (.if_icmp .ne 9, 3) := by decide +kernel
theorem dX9_childrenOf_26 : decode cX9_childrenOf 26 = .ok (.iconst 1, 1) := by decide +kernel
theorem dX9_childrenOf_27 : decode cX9_childrenOf 27 = .ok (.iload_n 3, 1) := by decide +kernel
theorem dX9_childrenOf_28 : decode cX9_childrenOf 28 = .ok (.ishl, 1) := by decide +kernel
theorem dX9_childrenOf_29 : decode cX9_childrenOf 29 = .ok (.goto 4, 3) := by decide +kernel
theorem dX9_childrenOf_32 : decode cX9_childrenOf 32 = .ok (.iconst 0, 1) := by decide +kernel
theorem dX9_childrenOf_33 : decode cX9_childrenOf 33 = .ok (.ior, 1) := by decide +kernel
theorem dX9_childrenOf_34 : decode cX9_childrenOf 34 = .ok (.istore_n 2, 1) := by decide +kernel
theorem dX9_childrenOf_35 : decode cX9_childrenOf 35 = .ok (.iinc 3 1, 3) := by decide +kernel
theorem dX9_childrenOf_38 : decode cX9_childrenOf 38 = .ok (.goto (-34), 3) := by decide +kernel
theorem dX9_childrenOf_41 : decode cX9_childrenOf 41 = .ok (.iload_n 2, 1) := by decide +kernel
theorem dX9_childrenOf_42 : decode cX9_childrenOf 42 = .ok (.ireturn, 1) := by decide +kernel
theorem dX9_node_0 : decode cX9_node 0 = .ok (.aload_n 0, 1) := by decide +kernel
theorem dX9_node_1 : decode cX9_node 1 = .ok (.iconst 0, 1) := by decide +kernel
theorem dX9_node_2 : decode cX9_node 2 = .ok (.putfield 37, 3) := by decide +kernel
theorem dX9_node_5 : decode cX9_node 5 = .ok (.aload_n 0, 1) := by decide +kernel
theorem dX9_node_6 : decode cX9_node 6 = .ok (.iconst 0, 1) := by decide +kernel
theorem dX9_node_7 : decode cX9_node 7 = .ok (.putfield 40, 3) := by decide +kernel
theorem dX9_node_10 : decode cX9_node 10 = .ok (.iload_n 2, 1) := by decide +kernel
theorem dX9_node_11 : decode cX9_node 11 = .ok (.iconst 0, 1) := by decide +kernel
theorem dX9_node_12 : decode cX9_node 12 = .ok (.bipush 13, 2) := by decide +kernel
theorem dX9_node_14 : decode cX9_node 14 = .ok (.invokestatic 43, 3) := by decide +kernel
theorem dX9_node_17 : decode cX9_node 17 = .ok (.ifCond .ne 9, 3) := by decide +kernel
theorem dX9_node_20 : decode cX9_node 20 = .ok (.aload_n 0, 1) := by decide +kernel
theorem dX9_node_21 : decode cX9_node 21 = .ok (.iconst 1, 1) := by decide +kernel
theorem dX9_node_22 : decode cX9_node 22 = .ok (.invokevirtual 225, 3) := by decide +kernel
theorem dX9_node_25 : decode cX9_node 25 = .ok (.ireturn, 1) := by decide +kernel
theorem dX9_node_26 : decode cX9_node 26 = .ok (.aload_n 0, 1) := by decide +kernel
theorem dX9_node_27 : decode cX9_node 27 = .ok (.iload_n 1, 1) := by decide +kernel
theorem dX9_node_28 : decode cX9_node 28 = .ok (.invokevirtual 239, 3) := by decide +kernel
theorem dX9_node_31 : decode cX9_node 31 = .ok (.ifCond .ne 9, 3) := by decide +kernel
theorem dX9_node_34 : decode cX9_node 34 = .ok (.aload_n 0, 1) := by decide +kernel
theorem dX9_node_35 : decode cX9_node 35 = .ok (.iconst 2, 1) := by decide +kernel
theorem dX9_node_36 : decode cX9_node 36 = .ok (.invokevirtual 225, 3) := by decide +kernel
theorem dX9_node_39 : decode cX9_node 39 = .ok (.ireturn, 1) := by decide +kernel
theorem dX9_node_40 : decode cX9_node 40 = .ok (.iload_n 2, 1) := by decide +kernel
theorem dX9_node_41 : decode cX9_node 41 = .ok (.bipush 10, 2) := by decide +kernel
theorem dX9_node_43 : decode cX9_node 43 = .ok (.if_icmp .ge 13, 3) := by decide +kernel
theorem dX9_node_46 : decode cX9_node 46 = .ok (.aload_n 0, 1) := by decide +kernel
theorem dX9_node_47 : decode cX9_node 47 = .ok (.iload_n 1, 1) := by decide +kernel
theorem dX9_node_48 : decode cX9_node 48 = .ok (.bipush 8, 2) := by decide +kernel
theorem dX9_node_50 : decode cX9_node 50 = .ok (.iload_n 2, 1) := by decide +kernel
theorem dX9_node_51 : decode cX9_node 51 = .ok (.imul, 1) := by decide +kernel
theorem dX9_node_52 : decode cX9_node 52 = .ok (.invokevirtual 47, 3) := by decide +kernel
theorem dX9_node_55 : decode cX9_node 55 = .ok (.ireturn, 1) := by decide +kernel
theorem dX9_node_56 : decode cX9_node 56 = .ok (.iload_n 2, 1) := by decide +kernel
theorem dX9_node_57 : decode cX9_node 57 = .ok (.bipush 10, 2) := by decide +kernel
theorem dX9_node_59 : decode cX9_node 59 = .ok (.if_icmp .ne 11, 3) := by decide +kernel
theorem dX9_node_62 : decode cX9_node 62 = .ok (.aload_n 0, 1) := by decide +kernel
theorem dX9_node_63 : decode cX9_node 63 = .ok (.iload_n 1, 1) := by decide +kernel
theorem dX9_node_64 : decode cX9_node 64 = .ok (.invokevirtual 242, 3) := by decide +kernel
theorem dX9_node_67 : decode cX9_node 67 = .ok (.goto 15, 3) := by decide +kernel
theorem dX9_node_70 : decode cX9_node 70 = .ok (.aload_n 0, 1) := by decide +kernel
theorem dX9_node_71 : decode cX9_node 71 = .ok (.iload_n 1, 1) := by decide +kernel
theorem dX9_node_72 : decode cX9_node 72 = .ok (.bipush 8, 2) := by decide +kernel
theorem dX9_node_74 : decode cX9_node 74 = .ok (.iload_n 2, 1) := by decide +kernel
theorem dX9_node_75 : decode cX9_node 75 = .ok (.imul, 1) := by decide +kernel
theorem dX9_node_76 : decode cX9_node 76 = .ok (.bipush 8, 2) := by decide +kernel
theorem dX9_node_78 : decode cX9_node 78 = .ok (.isub, 1) := by decide +kernel
theorem dX9_node_79 : decode cX9_node 79 = .ok (.invokevirtual 47, 3) := by decide +kernel
theorem dX9_node_82 : decode cX9_node 82 = .ok (.ireturn, 1) := by decide +kernel
theorem dX9_asksWire_0 : decode cX9_asksWire 0 = .ok (.aload_n 0, 1) := by decide +kernel
theorem dX9_asksWire_1 : decode cX9_asksWire 1 = .ok (.iconst 0, 1) := by decide +kernel
theorem dX9_asksWire_2 : decode cX9_asksWire 2 = .ok (.putfield 37, 3) := by decide +kernel
theorem dX9_asksWire_5 : decode cX9_asksWire 5 = .ok (.aload_n 0, 1) := by decide +kernel
theorem dX9_asksWire_6 : decode cX9_asksWire 6 = .ok (.iload_n 1, 1) := by decide +kernel
theorem dX9_asksWire_7 : decode cX9_asksWire 7 = .ok (.ifCond .ne 7, 3) := by decide +kernel
theorem dX9_asksWire_10 : decode cX9_asksWire 10 = .ok (.iconst 1, 1) := by decide +kernel
theorem dX9_asksWire_11 : decode cX9_asksWire 11 = .ok (.goto 33, 3) := by decide +kernel
theorem dX9_asksWire_14 : decode cX9_asksWire 14 = .ok (.aload_n 0, 1) := by decide +kernel
theorem dX9_asksWire_15 : decode cX9_asksWire 15 = .ok (.iload_n 2, 1) := by decide +kernel
theorem dX9_asksWire_16 : decode cX9_asksWire 16 = .ok (.invokevirtual 239, 3) := by decide +kernel
theorem dX9_asksWire_19 : decode cX9_asksWire 19 = .ok (.ifCond .eq 11, 3) := by decide +kernel
theorem dX9_asksWire_22 : decode cX9_asksWire 22 = .ok (.aload_n 0, 1) := by decide +kernel
theorem dX9_asksWire_23 : decode cX9_asksWire 23 = .ok (.iload_n 3, 1) := by decide +kernel
theorem dX9_asksWire_24 : decode cX9_asksWire 24 = .ok (.invokevirtual 239, 3) := by decide +kernel
theorem dX9_asksWire_27 : decode cX9_asksWire 27 = .ok (.ifCond .ne 7, 3) := by decide +kernel
theorem dX9_asksWire_30 : decode cX9_asksWire 30 = .ok (.iconst 2, 1) := by decide +kernel
theorem dX9_asksWire_31 : decode cX9_asksWire 31 = .ok (.goto 13, 3) := by decide +kernel
theorem dX9_asksWire_34 : decode cX9_asksWire 34 = .ok (.iload_n 2, 1) := by decide +kernel
theorem dX9_asksWire_35 : decode cX9_asksWire 35 = .ok (.iload_n 3, 1) := by decide +kernel
theorem dX9_asksWire_36 : decode cX9_asksWire 36 = .ok (.if_icmp .ne 7, 3) := by decide +kernel
theorem dX9_asksWire_39 : decode cX9_asksWire 39 = .ok (.iconst 4, 1) := by decide +kernel
theorem dX9_asksWire_40 : decode cX9_asksWire 40 = .ok (.goto 4, 3) := by decide +kernel
theorem dX9_asksWire_43 : decode cX9_asksWire 43 = .ok (.iconst 0, 1) := by decide +kernel
theorem dX9_asksWire_44 : decode cX9_asksWire 44 = .ok (.putfield 40, 3) := by decide +kernel
theorem dX9_asksWire_47 : decode cX9_asksWire 47 = .ok (.aload_n 0, 1) := by decide +kernel
theorem dX9_asksWire_48 : decode cX9_asksWire 48 = .ok (.getfield 40, 3) := by decide +kernel
theorem dX9_asksWire_51 : decode cX9_asksWire 51 = .ok (.ifCond .ne 7, 3) := by decide +kernel
theorem dX9_asksWire_54 : decode cX9_asksWire 54 = .ok (.iconst 1, 1) := by decide +kernel
theorem dX9_asksWire_55 : decode cX9_asksWire 55 = .ok (.goto 4, 3) := by decide +kernel
theorem dX9_asksWire_58 : decode cX9_asksWire 58 = .ok (.iconst 0, 1) := by decide +kernel
theorem dX9_asksWire_59 : decode cX9_asksWire 59 = .ok (.ireturn, 1) := by decide +kernel
theorem dX9_wire_0 : decode cX9_wire 0 = .ok (.aload_n 0, 1) := by decide +kernel
theorem dX9_wire_1 : decode cX9_wire 1 = .ok (.iconst 1, 1) := by decide +kernel
theorem dX9_wire_2 : decode cX9_wire 2 = .ok (.iload_n 1, 1) := by decide +kernel
theorem dX9_wire_3 : decode cX9_wire 3 = .ok (.iload_n 2, 1) := by decide +kernel
theorem dX9_wire_4 : decode cX9_wire 4 = .ok (.invokevirtual 245, 3) := by decide +kernel
theorem dX9_wire_7 : decode cX9_wire 7 = .ok (.ifCond .eq 21, 3) := by decide +kernel
theorem dX9_wire_10 : decode cX9_wire 10 = .ok (.aload_n 0, 1) := by decide +kernel
theorem dX9_wire_11 : decode cX9_wire 11 = .ok (.getfield 7, 3) := by decide +kernel
theorem dX9_wire_14 : decode cX9_wire 14 = .ok (.sipush 184, 3) := by decide +kernel
theorem dX9_wire_17 : decode cX9_wire 17 = .ok (.bipush 8, 2) := by decide +kernel
theorem dX9_wire_19 : decode cX9_wire 19 = .ok (.iload_n 1, 1) := by decide +kernel
theorem dX9_wire_20 : decode cX9_wire 20 = .ok (.imul, 1) := by decide +kernel
theorem dX9_wire_21 : decode cX9_wire 21 = .ok (.iadd, 1) := by decide +kernel
theorem dX9_wire_22 : decode cX9_wire 22 = .ok (.iload_n 2, 1) := by decide +kernel
theorem dX9_wire_23 : decode cX9_wire 23 = .ok (.iadd, 1) := by decide +kernel
theorem dX9_wire_24 : decode cX9_wire 24 = .ok (.iaload, 1) := by decide +kernel
theorem dX9_wire_25 : decode cX9_wire 25 = .ok (.goto 4, 3) := by decide +kernel
theorem dX9_wire_28 : decode cX9_wire 28 = .ok (.iconst (-1), 1) := by decide +kernel
theorem dX9_wire_29 : decode cX9_wire 29 = .ok (.ireturn, 1) := by decide +kernel
theorem dX9_row_0 : decode cX9_row 0 = .ok (.aload_n 0, 1) := by decide +kernel
theorem dX9_row_1 : decode cX9_row 1 = .ok (.iconst 0, 1) := by decide +kernel
theorem dX9_row_2 : decode cX9_row 2 = .ok (.putfield 37, 3) := by decide +kernel
theorem dX9_row_5 : decode cX9_row 5 = .ok (.aload_n 0, 1) := by decide +kernel
theorem dX9_row_6 : decode cX9_row 6 = .ok (.iconst 0, 1) := by decide +kernel
theorem dX9_row_7 : decode cX9_row 7 = .ok (.putfield 40, 3) := by decide +kernel
theorem dX9_row_10 : decode cX9_row 10 = .ok (.iload_n 1, 1) := by decide +kernel
theorem dX9_row_11 : decode cX9_row 11 = .ok (.ifCond .lt 12, 3) := by decide +kernel
theorem dX9_row_14 : decode cX9_row 14 = .ok (.iload_n 2, 1) := by decide +kernel
theorem dX9_row_15 : decode cX9_row 15 = .ok (.iconst 0, 1) := by decide +kernel
theorem dX9_row_16 : decode cX9_row 16 = .ok (.iconst 3, 1) := by decide +kernel
theorem dX9_row_17 : decode cX9_row 17 = .ok (.invokestatic 43, 3) := by decide +kernel
theorem dX9_row_20 : decode cX9_row 20 = .ok (.ifCond .ne 9, 3) := by decide +kernel
theorem dX9_row_23 : decode cX9_row 23 = .ok (.aload_n 0, 1) := by decide +kernel
theorem dX9_row_24 : decode cX9_row 24 = .ok (.iconst 1, 1) := by decide +kernel
theorem dX9_row_25 : decode cX9_row 25 = .ok (.invokevirtual 225, 3) := by decide +kernel
theorem dX9_row_28 : decode cX9_row 28 = .ok (.ireturn, 1) := by decide +kernel
theorem dX9_row_29 : decode cX9_row 29 = .ok (.iload_n 1, 1) := by decide +kernel
theorem dX9_row_30 : decode cX9_row 30 = .ok (.aload_n 0, 1) := by decide +kernel
theorem dX9_row_31 : decode cX9_row 31 = .ok (.getfield 7, 3) := by decide +kernel
theorem dX9_row_34 : decode cX9_row 34 = .ok (.iconst 1, 1) := by decide +kernel
theorem dX9_row_35 : decode cX9_row 35 = .ok (.iaload, 1) := by decide +kernel
theorem dX9_row_36 : decode cX9_row 36 = .ok (.if_icmp .ge 20, 3) := by decide +kernel
theorem dX9_row_39 : decode cX9_row 39 = .ok (.aload_n 0, 1) := by decide +kernel
theorem dX9_row_40 : decode cX9_row 40 = .ok (.getfield 7, 3) := by decide +kernel
theorem dX9_row_43 : decode cX9_row 43 = .ok (.sipush 504, 3) := by decide +kernel
theorem dX9_row_46 : decode cX9_row 46 = .ok (.iconst 4, 1) := by decide +kernel
theorem dX9_row_47 : decode cX9_row 47 = .ok (.iload_n 1, 1) := by decide +kernel
theorem dX9_row_48 : decode cX9_row 48 = .ok (.imul, 1) := by decide +kernel
theorem dX9_row_49 : decode cX9_row 49 = .ok (.iadd, 1) := by decide +kernel
theorem dX9_row_50 : decode cX9_row 50 = .ok (.iload_n 2, 1) := by decide +kernel
theorem dX9_row_51 : decode cX9_row 51 = .ok (.iadd, 1) := by decide +kernel
theorem dX9_row_52 : decode cX9_row 52 = .ok (.iaload, 1) := by decide +kernel
theorem dX9_row_53 : decode cX9_row 53 = .ok (.goto 8, 3) := by decide +kernel
theorem dX9_row_56 : decode cX9_row 56 = .ok (.aload_n 0, 1) := by decide +kernel
theorem dX9_row_57 : decode cX9_row 57 = .ok (.iconst 5, 1) := by decide +kernel
theorem dX9_row_58 : decode cX9_row 58 = .ok (.invokevirtual 225, 3) := by decide +kernel
theorem dX9_row_61 : decode cX9_row 61 = .ok (.ireturn, 1) := by decide +kernel
theorem dX9_letter_0 : decode cX9_letter 0 = .ok (.aload_n 0, 1) := by decide +kernel
theorem dX9_letter_1 : decode cX9_letter 1 = .ok (.iconst 0, 1) := by decide +kernel
theorem dX9_letter_2 : decode cX9_letter 2 = .ok (.putfield 37, 3) := by decide +kernel
theorem dX9_letter_5 : decode cX9_letter 5 = .ok (.aload_n 0, 1) := by decide +kernel
theorem dX9_letter_6 : decode cX9_letter 6 = .ok (.iconst 0, 1) := by decide +kernel
theorem dX9_letter_7 : decode cX9_letter 7 = .ok (.putfield 40, 3) := by decide +kernel
theorem dX9_letter_10 : decode cX9_letter 10 = .ok (.iload_n 1, 1) := by decide +kernel
theorem dX9_letter_11 : decode cX9_letter 11 = .ok (.ifCond .lt 13, 3) := by decide +kernel
theorem dX9_letter_14 : decode cX9_letter 14 = .ok (.iload_n 2, 1) := by decide +kernel
theorem dX9_letter_15 : decode cX9_letter 15 = .ok (.iconst 0, 1) := by decide +kernel
theorem dX9_letter_16 : decode cX9_letter 16 = .ok (.bipush 7, 2) := by decide +kernel
theorem dX9_letter_18 : decode cX9_letter 18 = .ok (.invokestatic 43, 3) := by decide +kernel
theorem dX9_letter_21 : decode cX9_letter 21 = .ok (.ifCond .ne 9, 3) := by decide +kernel
theorem dX9_letter_24 : decode cX9_letter 24 = .ok (.aload_n 0, 1) := by decide +kernel
theorem dX9_letter_25 : decode cX9_letter 25 = .ok (.iconst 1, 1) := by decide +kernel
theorem dX9_letter_26 : decode cX9_letter 26 = .ok (.invokevirtual 225, 3) := by decide +kernel
theorem dX9_letter_29 : decode cX9_letter 29 = .ok (.ireturn, 1) := by decide +kernel
theorem dX9_letter_30 : decode cX9_letter 30 = .ok (.iload_n 1, 1) := by decide +kernel
theorem dX9_letter_31 : decode cX9_letter 31 = .ok (.aload_n 0, 1) := by decide +kernel
theorem dX9_letter_32 : decode cX9_letter 32 = .ok (.getfield 7, 3) := by decide +kernel
theorem dX9_letter_35 : decode cX9_letter 35 = .ok (.iconst 2, 1) := by decide +kernel
theorem dX9_letter_36 : decode cX9_letter 36 = .ok (.iaload, 1) := by decide +kernel
theorem dX9_letter_37 : decode cX9_letter 37 = .ok (.if_icmp .lt 9, 3) := by decide +kernel
theorem dX9_letter_40 : decode cX9_letter 40 = .ok (.aload_n 0, 1) := by decide +kernel
theorem dX9_letter_41 : decode cX9_letter 41 = .ok (.iconst 5, 1) := by decide +kernel
theorem dX9_letter_42 : decode cX9_letter 42 = .ok (.invokevirtual 225, 3) := by decide +kernel
theorem dX9_letter_45 : decode cX9_letter 45 = .ok (.ireturn, 1) := by decide +kernel
theorem dX9_letter_46 : decode cX9_letter 46 = .ok (.iload_n 2, 1) := by decide +kernel
theorem dX9_letter_47 : decode cX9_letter 47 = .ok (.iconst 3, 1) := by decide +kernel
theorem dX9_letter_48 : decode cX9_letter 48 = .ok (.if_icmp .ne 19, 3) := by decide +kernel
theorem dX9_letter_51 : decode cX9_letter 51 = .ok (.aload_n 0, 1) := by decide +kernel
theorem dX9_letter_52 : decode cX9_letter 52 = .ok (.iload_n 1, 1) := by decide +kernel
theorem dX9_letter_53 : decode cX9_letter 53 = .ok (.iconst 3, 1) := by decide +kernel
theorem dX9_letter_54 : decode cX9_letter 54 = .ok (.invokevirtual 87, 3) := by decide +kernel
theorem dX9_letter_57 : decode cX9_letter 57 = .ok (.aload_n 0, 1) := by decide +kernel
theorem dX9_letter_58 : decode cX9_letter 58 = .ok (.getfield 7, 3) := by decide +kernel
theorem dX9_letter_61 : decode cX9_letter 61 = .ok (.iconst 4, 1) := by decide +kernel
theorem dX9_letter_62 : decode cX9_letter 62 = .ok (.iaload, 1) := by decide +kernel
theorem dX9_letter_63 : decode cX9_letter 63 = .ok (.isub, 1) := by decide +kernel
theorem dX9_letter_64 : decode cX9_letter 64 = .ok (.goto 9, 3) := by decide +kernel
theorem dX9_letter_67 : decode cX9_letter 67 = .ok (.aload_n 0, 1) := by decide +kernel
theorem dX9_letter_68 : decode cX9_letter 68 = .ok (.iload_n 1, 1) := by decide +kernel
theorem dX9_letter_69 : decode cX9_letter 69 = .ok (.iload_n 2, 1) := by decide +kernel
theorem dX9_letter_70 : decode cX9_letter 70 = .ok (.invokevirtual 87, 3) := by decide +kernel
theorem dX9_letter_73 : decode cX9_letter 73 = .ok (.ireturn, 1) := by decide +kernel
theorem dX9_depth_0 : decode cX9_depth 0 = .ok (.iconst 0, 1) := by decide +kernel
theorem dX9_depth_1 : decode cX9_depth 1 = .ok (.istore_n 1, 1) := by decide +kernel
theorem dX9_depth_2 : decode cX9_depth 2 = .ok (.iconst 0, 1) := by decide +kernel
theorem dX9_depth_3 : decode cX9_depth 3 = .ok (.istore_n 2, 1) := by decide +kernel
theorem dX9_depth_4 : decode cX9_depth 4 = .ok (.iload_n 2, 1) := by decide +kernel
theorem dX9_depth_5 : decode cX9_depth 5 = .ok (.aload_n 0, 1) := by decide +kernel
theorem dX9_depth_6 : decode cX9_depth 6 = .ok (.getfield 7, 3) := by decide +kernel
theorem dX9_depth_9 : decode cX9_depth 9 = .ok (.iconst 0, 1) := by decide +kernel
theorem dX9_depth_10 : decode cX9_depth 10 = .ok (.iaload, 1) := by decide +kernel
theorem dX9_depth_11 : decode cX9_depth 11 = .ok (.if_icmp .ge 53, 3) := by decide +kernel
theorem dX9_depth_14 : decode cX9_depth 14 = .ok (.iconst 0, 1) := by decide +kernel
theorem dX9_depth_15 : decode cX9_depth 15 = .ok (.istore_n 3, 1) := by decide +kernel
theorem dX9_depth_16 : decode cX9_depth 16 = .ok (.iload_n 2, 1) := by decide +kernel
theorem dX9_depth_17 : decode cX9_depth 17 = .ok (.istore 4, 2) := by decide +kernel
theorem dX9_depth_19 : decode cX9_depth 19 = .ok (.aload_n 0, 1) := by decide +kernel
theorem dX9_depth_20 : decode cX9_depth 20 = .ok (.iload 4, 2) := by decide +kernel
theorem dX9_depth_22 : decode cX9_depth 22 = .ok (.bipush 32, 2) := by decide +kernel
theorem dX9_depth_24 : decode cX9_depth 24 = .ok (.invokevirtual 47, 3) := by decide +kernel
theorem dX9_depth_27 : decode cX9_depth 27 = .ok (.iconst (-1), 1) := by decide +kernel
theorem dX9_depth_28 : decode cX9_depth 28 = .ok (.if_icmp .eq 19, 3) := by decide +kernel
theorem dX9_depth_31 : decode cX9_depth 31 = .ok (.iinc 3 1, 3) := by decide +kernel
theorem dX9_depth_34 : decode cX9_depth 34 = .ok (.aload_n 0, 1) := by decide +kernel
theorem dX9_depth_35 : decode cX9_depth 35 = .ok (.iload 4, 2) := by decide +kernel
theorem dX9_depth_37 : decode cX9_depth 37 = .ok (.bipush 32, 2) := by decide +kernel
theorem dX9_depth_39 : decode cX9_depth 39 = .ok (.invokevirtual 47, 3) := by decide +kernel
theorem dX9_depth_42 : decode cX9_depth 42 = .ok (.istore 4, 2) := by decide +kernel
theorem dX9_depth_44 : decode cX9_depth 44 = .ok (.goto (-25), 3) := by decide +kernel
theorem dX9_depth_47 : decode cX9_depth 47 = .ok (.iload_n 3, 1) := by decide +kernel
theorem dX9_depth_48 : decode cX9_depth 48 = .ok (.iload_n 1, 1) := by decide +kernel
theorem dX9_depth_49 : decode cX9_depth 49 = .ok (.if_icmp .le 7, 3) := by decide +kernel
theorem dX9_depth_52 : decode cX9_depth 52 = .ok (.iload_n 3, 1) := by decide +kernel
theorem dX9_depth_53 : decode cX9_depth 53 = .ok (.goto 4, 3) := by decide +kernel
theorem dX9_depth_56 : decode cX9_depth 56 = .ok (.iload_n 1, 1) := by decide +kernel
theorem dX9_depth_57 : decode cX9_depth 57 = .ok (.istore_n 1, 1) := by decide +kernel
theorem dX9_depth_58 : decode cX9_depth 58 = .ok (.iinc 2 1, 3) := by decide +kernel
theorem dX9_depth_61 : decode cX9_depth 61 = .ok (.goto (-57), 3) := by decide +kernel
theorem dX9_depth_64 : decode cX9_depth 64 = .ok (.iload_n 1, 1) := by decide +kernel
theorem dX9_depth_65 : decode cX9_depth 65 = .ok (.ireturn, 1) := by decide +kernel
theorem dX9_asksWatch_0 : decode cX9_asksWatch 0 = .ok (.aload_n 0, 1) := by decide +kernel
theorem dX9_asksWatch_1 : decode cX9_asksWatch 1 = .ok (.iconst 0, 1) := by decide +kernel
theorem dX9_asksWatch_2 : decode cX9_asksWatch 2 = .ok (.putfield 37, 3) := by decide +kernel
theorem dX9_asksWatch_5 : decode cX9_asksWatch 5 = .ok (.aload_n 0, 1) := by decide +kernel
theorem dX9_asksWatch_6 : decode cX9_asksWatch 6 = .ok (.iload_n 1, 1) := by decide +kernel
theorem dX9_asksWatch_7 : decode cX9_asksWatch 7 = .ok (.ifCond .ne 7, 3) := by decide +kernel
theorem dX9_asksWatch_10 : decode cX9_asksWatch 10 = .ok (.iconst 1, 1) := by decide +kernel
theorem dX9_asksWatch_11 : decode cX9_asksWatch 11 = .ok (.goto 17, 3) := by decide +kernel
theorem dX9_asksWatch_14 : decode cX9_asksWatch 14 = .ok (.iload_n 2, 1) := by decide +kernel
theorem dX9_asksWatch_15 : decode cX9_asksWatch 15 = .ok (.iconst 0, 1) := by decide +kernel
theorem dX9_asksWatch_16 : decode cX9_asksWatch 16 = .ok (.iconst 3, 1) := by decide +kernel
theorem dX9_asksWatch_17 : decode cX9_asksWatch 17 = .ok (.invokestatic 43, 3) := by decide +kernel
theorem dX9_asksWatch_20 : decode cX9_asksWatch 20 = .ok (.ifCond .ne 7, 3) := by decide +kernel
theorem dX9_asksWatch_23 : decode cX9_asksWatch 23 = .ok (.iconst 2, 1) := by decide +kernel
theorem dX9_asksWatch_24 : decode cX9_asksWatch 24 = .ok (.goto 4, 3) := by decide +kernel
theorem dX9_asksWatch_27 : decode cX9_asksWatch 27 = .ok (.iconst 0, 1) := by decide +kernel
theorem dX9_asksWatch_28 : decode cX9_asksWatch 28 = .ok (.putfield 40, 3) := by decide +kernel
theorem dX9_asksWatch_31 : decode cX9_asksWatch 31 = .ok (.aload_n 0, 1) := by decide +kernel
theorem dX9_asksWatch_32 : decode cX9_asksWatch 32 = .ok (.getfield 40, 3) := by decide +kernel
theorem dX9_asksWatch_35 : decode cX9_asksWatch 35 = .ok (.ifCond .ne 7, 3) := by decide +kernel
theorem dX9_asksWatch_38 : decode cX9_asksWatch 38 = .ok (.iconst 1, 1) := by decide +kernel
theorem dX9_asksWatch_39 : decode cX9_asksWatch 39 = .ok (.goto 4, 3) := by decide +kernel
theorem dX9_asksWatch_42 : decode cX9_asksWatch 42 = .ok (.iconst 0, 1) := by decide +kernel
theorem dX9_asksWatch_43 : decode cX9_asksWatch 43 = .ok (.ireturn, 1) := by decide +kernel
theorem dX9_watch_0 : decode cX9_watch 0 = .ok (.aload_n 0, 1) := by decide +kernel
theorem dX9_watch_1 : decode cX9_watch 1 = .ok (.iload_n 2, 1) := by decide +kernel
theorem dX9_watch_2 : decode cX9_watch 2 = .ok (.iconst 0, 1) := by decide +kernel
theorem dX9_watch_3 : decode cX9_watch 3 = .ok (.iconst 5, 1) := by decide +kernel
theorem dX9_watch_4 : decode cX9_watch 4 = .ok (.invokestatic 43, 3) := by decide +kernel
theorem dX9_watch_7 : decode cX9_watch 7 = .ok (.iload_n 1, 1) := by decide +kernel
theorem dX9_watch_8 : decode cX9_watch 8 = .ok (.invokevirtual 249, 3) := by decide +kernel
theorem dX9_watch_11 : decode cX9_watch 11 = .ok (.ifCond .ne 5, 3) := by decide +kernel
theorem dX9_watch_14 : decode cX9_watch 14 = .ok (.iconst (-1), 1) := by decide +kernel
theorem dX9_watch_15 : decode cX9_watch 15 = .ok (.ireturn, 1) := by decide +kernel
theorem dX9_watch_16 : decode cX9_watch 16 = .ok (.iload_n 2, 1) := by decide +kernel
theorem dX9_watch_17 : decode cX9_watch 17 = .ok (.tableswitch 190 0 4 #[35, 45, 55, 107, 139], 35) := by decide +kernel
theorem dX9_watch_52 : decode cX9_watch 52 = .ok (.aload_n 0, 1) := by decide +kernel
theorem dX9_watch_53 : decode cX9_watch 53 = .ok (.getfield 7, 3) := by decide +kernel
theorem dX9_watch_56 : decode cX9_watch 56 = .ok (.bipush 8, 2) := by decide +kernel
theorem dX9_watch_58 : decode cX9_watch 58 = .ok (.iload_n 1, 1) := by decide +kernel
theorem dX9_watch_59 : decode cX9_watch 59 = .ok (.iadd, 1) := by decide +kernel
theorem dX9_watch_60 : decode cX9_watch 60 = .ok (.iaload, 1) := by decide +kernel
theorem dX9_watch_61 : decode cX9_watch 61 = .ok (.ireturn, 1) := by decide +kernel
theorem dX9_watch_62 : decode cX9_watch 62 = .ok (.aload_n 0, 1) := by decide +kernel
theorem dX9_watch_63 : decode cX9_watch 63 = .ok (.getfield 7, 3) := by decide +kernel
theorem dX9_watch_66 : decode cX9_watch 66 = .ok (.bipush 12, 2) := by decide +kernel
theorem dX9_watch_68 : decode cX9_watch 68 = .ok (.iload_n 1, 1) := by decide +kernel
theorem dX9_watch_69 : decode cX9_watch 69 = .ok (.iadd, 1) := by decide +kernel
theorem dX9_watch_70 : decode cX9_watch 70 = .ok (.iaload, 1) := by decide +kernel
theorem dX9_watch_71 : decode cX9_watch 71 = .ok (.ireturn, 1) := by decide +kernel
theorem dX9_watch_72 : decode cX9_watch 72 = .ok (.iload_n 1, 1) := by decide +kernel
theorem dX9_watch_73 : decode cX9_watch 73 = .ok (.ifCond .ne 13, 3) := by decide +kernel
theorem dX9_watch_76 : decode cX9_watch 76 = .ok (.aload_n 0, 1) := by decide +kernel
theorem dX9_watch_77 : decode cX9_watch 77 = .ok (.getfield 7, 3) := by decide +kernel
theorem dX9_watch_80 : decode cX9_watch 80 = .ok (.bipush 16, 2) := by decide +kernel
theorem dX9_watch_82 : decode cX9_watch 82 = .ok (.iaload, 1) := by decide +kernel
theorem dX9_watch_83 : decode cX9_watch 83 = .ok (.goto 40, 3) := by decide +kernel
theorem dX9_watch_86 : decode cX9_watch 86 = .ok (.iload_n 1, 1) := by decide +kernel
theorem dX9_watch_87 : decode cX9_watch 87 = .ok (.iconst 1, 1) := by decide +kernel
theorem dX9_watch_88 : decode cX9_watch 88 = .ok (.if_icmp .ne 13, 3) := by decide +kernel
theorem dX9_watch_91 : decode cX9_watch 91 = .ok (.aload_n 0, 1) := by decide +kernel
theorem dX9_watch_92 : decode cX9_watch 92 = .ok (.getfield 7, 3) := by decide +kernel
theorem dX9_watch_95 : decode cX9_watch 95 = .ok (.bipush 21, 2) := by decide +kernel
theorem dX9_watch_97 : decode cX9_watch 97 = .ok (.iaload, 1) := by decide +kernel
theorem dX9_watch_98 : decode cX9_watch 98 = .ok (.goto 25, 3) := by decide +kernel
theorem dX9_watch_101 : decode cX9_watch 101 = .ok (.iload_n 1, 1) := by decide +kernel
theorem dX9_watch_102 : decode cX9_watch 102 = .ok (.iconst 2, 1) := by decide +kernel
theorem dX9_watch_103 : decode cX9_watch 103 = .ok (.if_icmp .ne 13, 3) := by decide +kernel
theorem dX9_watch_106 : decode cX9_watch 106 = .ok (.aload_n 0, 1) := by decide +kernel
theorem dX9_watch_107 : decode cX9_watch 107 = .ok (.getfield 7, 3) := by decide +kernel
theorem dX9_watch_110 : decode cX9_watch 110 = .ok (.bipush 24, 2) := by decide +kernel
theorem dX9_watch_112 : decode cX9_watch 112 = .ok (.iaload, 1) := by decide +kernel
theorem dX9_watch_113 : decode cX9_watch 113 = .ok (.goto 10, 3) := by decide +kernel
theorem dX9_watch_116 : decode cX9_watch 116 = .ok (.aload_n 0, 1) := by decide +kernel
theorem dX9_watch_117 : decode cX9_watch 117 = .ok (.getfield 7, 3) := by decide +kernel
theorem dX9_watch_120 : decode cX9_watch 120 = .ok (.bipush 32, 2) := by decide +kernel
theorem dX9_watch_122 : decode cX9_watch 122 = .ok (.iaload, 1) := by decide +kernel
theorem dX9_watch_123 : decode cX9_watch 123 = .ok (.ireturn, 1) := by decide +kernel
theorem dX9_watch_124 : decode cX9_watch 124 = .ok (.iload_n 1, 1) := by decide +kernel
theorem dX9_watch_125 : decode cX9_watch 125 = .ok (.iconst 1, 1) := by decide +kernel
theorem dX9_watch_126 : decode cX9_watch 126 = .ok (.if_icmp .ne 13, 3) := by decide +kernel
theorem dX9_watch_129 : decode cX9_watch 129 = .ok (.aload_n 0, 1) := by decide +kernel
theorem dX9_watch_130 : decode cX9_watch 130 = .ok (.getfield 7, 3) := by decide +kernel
theorem dX9_watch_133 : decode cX9_watch 133 = .ok (.bipush 17, 2) := by decide +kernel
theorem dX9_watch_135 : decode cX9_watch 135 = .ok (.iaload, 1) := by decide +kernel
theorem dX9_watch_136 : decode cX9_watch 136 = .ok (.goto 19, 3) := by decide +kernel
theorem dX9_watch_139 : decode cX9_watch 139 = .ok (.iload_n 1, 1) := by decide +kernel
theorem dX9_watch_140 : decode cX9_watch 140 = .ok (.iconst 3, 1) := by decide +kernel
theorem dX9_watch_141 : decode cX9_watch 141 = .ok (.if_icmp .ne 13, 3) := by decide +kernel
theorem dX9_watch_144 : decode cX9_watch 144 = .ok (.aload_n 0, 1) := by decide +kernel
theorem dX9_watch_145 : decode cX9_watch 145 = .ok (.getfield 7, 3) := by decide +kernel
theorem dX9_watch_148 : decode cX9_watch 148 = .ok (.bipush 25, 2) := by decide +kernel
theorem dX9_watch_150 : decode cX9_watch 150 = .ok (.iaload, 1) := by decide +kernel
theorem dX9_watch_151 : decode cX9_watch 151 = .ok (.goto 4, 3) := by decide +kernel
theorem dX9_watch_154 : decode cX9_watch 154 = .ok (.iconst 0, 1) := by decide +kernel
theorem dX9_watch_155 : decode cX9_watch 155 = .ok (.ireturn, 1) := by decide +kernel
theorem dX9_watch_156 : decode cX9_watch 156 = .ok (.iload_n 1, 1) := by decide +kernel
theorem dX9_watch_157 : decode cX9_watch 157 = .ok (.ifCond .ne 12, 3) := by decide +kernel
theorem dX9_watch_160 : decode cX9_watch 160 = .ok (.aload_n 0, 1) := by decide +kernel
theorem dX9_watch_161 : decode cX9_watch 161 = .ok (.bipush 48, 2) := by decide +kernel
theorem dX9_watch_163 : decode cX9_watch 163 = .ok (.invokevirtual 131, 3) := by decide +kernel
theorem dX9_watch_166 : decode cX9_watch 166 = .ok (.goto 40, 3) := by decide +kernel
theorem dX9_watch_169 : decode cX9_watch 169 = .ok (.iload_n 1, 1) := by decide +kernel
theorem dX9_watch_170 : decode cX9_watch 170 = .ok (.iconst 1, 1) := by decide +kernel
theorem dX9_watch_171 : decode cX9_watch 171 = .ok (.if_icmp .ne 13, 3) := by decide +kernel
theorem dX9_watch_174 : decode cX9_watch 174 = .ok (.aload_n 0, 1) := by decide +kernel
theorem dX9_watch_175 : decode cX9_watch 175 = .ok (.getfield 7, 3) := by decide +kernel
theorem dX9_watch_178 : decode cX9_watch 178 = .ok (.bipush 18, 2) := by decide +kernel
theorem dX9_watch_180 : decode cX9_watch 180 = .ok (.iaload, 1) := by decide +kernel
theorem dX9_watch_181 : decode cX9_watch 181 = .ok (.goto 25, 3) := by decide +kernel
theorem dX9_watch_184 : decode cX9_watch 184 = .ok (.iload_n 1, 1) := by decide +kernel
theorem dX9_watch_185 : decode cX9_watch 185 = .ok (.iconst 2, 1) := by decide +kernel
theorem dX9_watch_186 : decode cX9_watch 186 = .ok (.if_icmp .ne 13, 3) := by decide +kernel
theorem dX9_watch_189 : decode cX9_watch 189 = .ok (.aload_n 0, 1) := by decide +kernel
theorem dX9_watch_190 : decode cX9_watch 190 = .ok (.getfield 7, 3) := by decide +kernel
theorem dX9_watch_193 : decode cX9_watch 193 = .ok (.bipush 22, 2) := by decide +kernel
theorem dX9_watch_195 : decode cX9_watch 195 = .ok (.iaload, 1) := by decide +kernel
theorem dX9_watch_196 : decode cX9_watch 196 = .ok (.goto 10, 3) := by decide +kernel
theorem dX9_watch_199 : decode cX9_watch 199 = .ok (.aload_n 0, 1) := by decide +kernel
theorem dX9_watch_200 : decode cX9_watch 200 = .ok (.getfield 7, 3) := by decide +kernel
theorem dX9_watch_203 : decode cX9_watch 203 = .ok (.bipush 26, 2) := by decide +kernel
theorem dX9_watch_205 : decode cX9_watch 205 = .ok (.iaload, 1) := by decide +kernel
theorem dX9_watch_206 : decode cX9_watch 206 = .ok (.ireturn, 1) := by decide +kernel
theorem dX9_watch_207 : decode cX9_watch 207 = .ok (.iload_n 1, 1) := by decide +kernel
theorem dX9_watch_208 : decode cX9_watch 208 = .ok (.ifCond .ne 10, 3) := by decide +kernel
theorem dX9_watch_211 : decode cX9_watch 211 = .ok (.aload_n 0, 1) := by decide +kernel
theorem dX9_watch_212 : decode cX9_watch 212 = .ok (.invokevirtual 253, 3) := by decide +kernel
theorem dX9_watch_215 : decode cX9_watch 215 = .ok (.goto 40, 3) := by decide +kernel
theorem dX9_watch_218 : decode cX9_watch 218 = .ok (.iload_n 1, 1) := by decide +kernel
theorem dX9_watch_219 : decode cX9_watch 219 = .ok (.iconst 1, 1) := by decide +kernel
theorem dX9_watch_220 : decode cX9_watch 220 = .ok (.if_icmp .ne 13, 3) := by decide +kernel
theorem dX9_watch_223 : decode cX9_watch 223 = .ok (.aload_n 0, 1) := by decide +kernel
theorem dX9_watch_224 : decode cX9_watch 224 = .ok (.getfield 7, 3) := by decide +kernel
theorem dX9_watch_227 : decode cX9_watch 227 = .ok (.bipush 19, 2) := by decide +kernel
theorem dX9_watch_229 : decode cX9_watch 229 = .ok (.iaload, 1) := by decide +kernel
theorem dX9_watch_230 : decode cX9_watch 230 = .ok (.goto 25, 3) := by decide +kernel
theorem dX9_watch_233 : decode cX9_watch 233 = .ok (.iload_n 1, 1) := by decide +kernel
theorem dX9_watch_234 : decode cX9_watch 234 = .ok (.iconst 2, 1) := by decide +kernel
theorem dX9_watch_235 : decode cX9_watch 235 = .ok (.if_icmp .ne 13, 3) := by decide +kernel
theorem dX9_watch_238 : decode cX9_watch 238 = .ok (.aload_n 0, 1) := by decide +kernel
theorem dX9_watch_239 : decode cX9_watch 239 = .ok (.getfield 7, 3) := by decide +kernel
theorem dX9_watch_242 : decode cX9_watch 242 = .ok (.bipush 23, 2) := by decide +kernel
theorem dX9_watch_244 : decode cX9_watch 244 = .ok (.iaload, 1) := by decide +kernel
theorem dX9_watch_245 : decode cX9_watch 245 = .ok (.goto 10, 3) := by decide +kernel
theorem dX9_watch_248 : decode cX9_watch 248 = .ok (.aload_n 0, 1) := by decide +kernel
theorem dX9_watch_249 : decode cX9_watch 249 = .ok (.getfield 7, 3) := by decide +kernel
theorem dX9_watch_252 : decode cX9_watch 252 = .ok (.bipush 27, 2) := by decide +kernel
theorem dX9_watch_254 : decode cX9_watch 254 = .ok (.iaload, 1) := by decide +kernel
theorem dX9_watch_255 : decode cX9_watch 255 = .ok (.ireturn, 1) := by decide +kernel
theorem dX9_lagOf_0 : decode cX9_lagOf 0 = .ok (.aload_n 0, 1) := by decide +kernel
theorem dX9_lagOf_1 : decode cX9_lagOf 1 = .ok (.getfield 7, 3) := by decide +kernel
theorem dX9_lagOf_4 : decode cX9_lagOf 4 = .ok (.bipush 8, 2) := by decide +kernel
theorem dX9_lagOf_6 : decode cX9_lagOf 6 = .ok (.iload_n 1, 1) := by decide +kernel
theorem dX9_lagOf_7 : decode cX9_lagOf 7 = .ok (.iadd, 1) := by decide +kernel
theorem dX9_lagOf_8 : decode cX9_lagOf 8 = .ok (.iaload, 1) := by decide +kernel
theorem dX9_lagOf_9 : decode cX9_lagOf 9 = .ok (.aload_n 0, 1) := by decide +kernel
theorem dX9_lagOf_10 : decode cX9_lagOf 10 = .ok (.getfield 7, 3) := by decide +kernel
theorem dX9_lagOf_13 : decode cX9_lagOf 13 = .ok (.bipush 6, 2) := by decide +kernel
theorem dX9_lagOf_15 : decode cX9_lagOf 15 = .ok (.iaload, 1) := by decide +kernel
theorem dX9_lagOf_16 : decode cX9_lagOf 16 = .ok (.isub, 1) := by decide +kernel
theorem dX9_lagOf_17 : decode cX9_lagOf 17 = .ok (.ireturn, 1) := by decide +kernel
theorem dX9_lag_0 : decode cX9_lag 0 = .ok (.aload_n 0, 1) := by decide +kernel
theorem dX9_lag_1 : decode cX9_lag 1 = .ok (.iconst 1, 1) := by decide +kernel
theorem dX9_lag_2 : decode cX9_lag 2 = .ok (.iload_n 1, 1) := by decide +kernel
theorem dX9_lag_3 : decode cX9_lag 3 = .ok (.invokevirtual 249, 3) := by decide +kernel
theorem dX9_lag_6 : decode cX9_lag 6 = .ok (.ifCond .ne 5, 3) := by decide +kernel
theorem dX9_lag_9 : decode cX9_lag 9 = .ok (.iconst (-1), 1) := by decide +kernel
theorem dX9_lag_10 : decode cX9_lag 10 = .ok (.ireturn, 1) := by decide +kernel
theorem dX9_lag_11 : decode cX9_lag 11 = .ok (.aload_n 0, 1) := by decide +kernel
theorem dX9_lag_12 : decode cX9_lag 12 = .ok (.iload_n 1, 1) := by decide +kernel
theorem dX9_lag_13 : decode cX9_lag 13 = .ok (.invokevirtual 108, 3) := by decide +kernel
theorem dX9_lag_16 : decode cX9_lag 16 = .ok (.ifCond .eq 11, 3) := by decide +kernel
theorem dX9_lag_19 : decode cX9_lag 19 = .ok (.aload_n 0, 1) := by decide +kernel
theorem dX9_lag_20 : decode cX9_lag 20 = .ok (.iload_n 1, 1) := by decide +kernel
theorem dX9_lag_21 : decode cX9_lag 21 = .ok (.invokevirtual 256, 3) := by decide +kernel
theorem dX9_lag_24 : decode cX9_lag 24 = .ok (.goto 8, 3) := by decide +kernel
theorem dX9_lag_27 : decode cX9_lag 27 = .ok (.aload_n 0, 1) := by decide +kernel
theorem dX9_lag_28 : decode cX9_lag 28 = .ok (.iconst 5, 1) := by decide +kernel
theorem dX9_lag_29 : decode cX9_lag 29 = .ok (.invokevirtual 225, 3) := by decide +kernel
theorem dX9_lag_32 : decode cX9_lag 32 = .ok (.ireturn, 1) := by decide +kernel
theorem dX9_greatestWire_0 : decode cX9_greatestWire 0 = .ok (.iconst 0, 1) := by decide +kernel
theorem dX9_greatestWire_1 : decode cX9_greatestWire 1 = .ok (.istore_n 2, 1) := by decide +kernel
theorem dX9_greatestWire_2 : decode cX9_greatestWire 2 = .ok (.iconst 0, 1) := by decide +kernel
theorem dX9_greatestWire_3 : decode cX9_greatestWire 3 = .ok (.istore_n 3, 1) := by decide +kernel
theorem dX9_greatestWire_4 : decode cX9_greatestWire 4 = .ok (.iload_n 3, 1) := by decide +kernel
theorem dX9_greatestWire_5 : decode cX9_greatestWire 5 = .ok (.aload_n 0, 1) := by decide +kernel
theorem dX9_greatestWire_6 : decode cX9_greatestWire 6 = .ok (.getfield 7, 3) := by decide +kernel
theorem dX9_greatestWire_9 : decode cX9_greatestWire 9 = .ok (.iconst 0, 1) := by decide +kernel
theorem dX9_greatestWire_10 : decode cX9_greatestWire 10 = .ok (.iaload, 1) := by decide +kernel
theorem dX9_greatestWire_11 : decode cX9_greatestWire 11 = .ok (.if_icmp .ge 81, 3) := by decide +kernel
theorem dX9_greatestWire_14 : decode cX9_greatestWire 14 = .ok (.iconst 0, 1) := by decide +kernel
theorem dX9_greatestWire_15 : decode cX9_greatestWire 15 = .ok (.istore 4, 2) := by decide +kernel
theorem dX9_greatestWire_17 : decode cX9_greatestWire 17 = .ok (.iload 4, 2) := by decide +kernel
theorem dX9_greatestWire_19 : decode cX9_greatestWire 19 = .ok (.aload_n 0, 1) := by decide +kernel
theorem dX9_greatestWire_20 : decode cX9_greatestWire 20 = .ok (.getfield 7, 3) := by decide +kernel
theorem dX9_greatestWire_23 : decode cX9_greatestWire 23 = .ok (.iconst 0, 1) := by decide +kernel
theorem dX9_greatestWire_24 : decode cX9_greatestWire 24 = .ok (.iaload, 1) := by decide +kernel
theorem dX9_greatestWire_25 : decode cX9_greatestWire 25 = .ok (.if_icmp .ge 61, 3) := by decide +kernel
theorem dX9_greatestWire_28 : decode cX9_greatestWire 28 = .ok (.iload_n 3, 1) := by decide +kernel
theorem dX9_greatestWire_29 : decode cX9_greatestWire 29 = .ok (.iload 4, 2) := by decide +kernel
theorem dX9_greatestWire_31 : decode cX9_greatestWire 31 = .ok (.if_icmp .eq 49, 3) := by decide +kernel
theorem dX9_greatestWire_34 : decode cX9_greatestWire 34 = .ok (.iload_n 1, 1) := by decide +kernel
theorem dX9_greatestWire_35 : decode cX9_greatestWire 35 = .ok (.ifCond .eq 8, 3) := by decide +kernel
theorem dX9_greatestWire_38 : decode cX9_greatestWire 38 = .ok (.iload 4, 2) := by decide +kernel
theorem dX9_greatestWire_40 : decode cX9_greatestWire 40 = .ok (.ifCond .ne 40, 3) := by decide +kernel
theorem dX9_greatestWire_43 : decode cX9_greatestWire 43 = .ok (.aload_n 0, 1) := by decide +kernel
theorem dX9_greatestWire_44 : decode cX9_greatestWire 44 = .ok (.getfield 7, 3) := by decide +kernel
theorem dX9_greatestWire_47 : decode cX9_greatestWire 47 = .ok (.sipush 184, 3) := by decide +kernel
theorem dX9_greatestWire_50 : decode cX9_greatestWire 50 = .ok (.bipush 8, 2) := by decide +kernel
theorem dX9_greatestWire_52 : decode cX9_greatestWire 52 = .ok (.iload_n 3, 1) := by decide +kernel
theorem dX9_greatestWire_53 : decode cX9_greatestWire 53 = .ok (.imul, 1) := by decide +kernel
theorem dX9_greatestWire_54 : decode cX9_greatestWire 54 = .ok (.iadd, 1) := by decide +kernel
theorem dX9_greatestWire_55 : decode cX9_greatestWire 55 = .ok (.iload 4, 2) := by decide +kernel
theorem dX9_greatestWire_57 : decode cX9_greatestWire 57 = .ok (.iadd, 1) := by decide +kernel
theorem dX9_greatestWire_58 : decode cX9_greatestWire 58 = .ok (.iaload, 1) := by decide +kernel
theorem dX9_greatestWire_59 : decode cX9_greatestWire 59 = .ok (.iload_n 2, 1) := by decide +kernel
theorem dX9_greatestWire_60 : decode cX9_greatestWire 60 = .ok (.if_icmp .le 20, 3) := by decide +kernel
theorem dX9_greatestWire_63 : decode cX9_greatestWire 63 = .ok (.aload_n 0, 1) := by decide +kernel
theorem dX9_greatestWire_64 : decode cX9_greatestWire 64 = .ok (.getfield 7, 3) := by decide +kernel
theorem dX9_greatestWire_67 : decode cX9_greatestWire 67 = .ok (.sipush 184, 3) := by decide +kernel
theorem dX9_greatestWire_70 : decode cX9_greatestWire 70 = .ok (.bipush 8, 2) := by decide +kernel
theorem dX9_greatestWire_72 : decode cX9_greatestWire 72 = .ok (.iload_n 3, 1) := by decide +kernel
theorem dX9_greatestWire_73 : decode cX9_greatestWire 73 = .ok (.imul, 1) := by decide +kernel
theorem dX9_greatestWire_74 : decode cX9_greatestWire 74 = .ok (.iadd, 1) := by decide +kernel
theorem dX9_greatestWire_75 : decode cX9_greatestWire 75 = .ok (.iload 4, 2) := by decide +kernel
theorem dX9_greatestWire_77 : decode cX9_greatestWire 77 = .ok (.iadd, 1) := by decide +kernel
theorem dX9_greatestWire_78 : decode cX9_greatestWire 78 = .ok (.iaload, 1) := by decide +kernel
theorem dX9_greatestWire_79 : decode cX9_greatestWire 79 = .ok (.istore_n 2, 1) := by decide +kernel
theorem dX9_greatestWire_80 : decode cX9_greatestWire 80 = .ok (.iinc 4 1, 3) := by decide +kernel
theorem dX9_greatestWire_83 : decode cX9_greatestWire 83 = .ok (.goto (-66), 3) := by decide +kernel
theorem dX9_greatestWire_86 : decode cX9_greatestWire 86 = .ok (.iinc 3 1, 3) := by decide +kernel
theorem dX9_greatestWire_89 : decode cX9_greatestWire 89 = .ok (.goto (-85), 3) := by decide +kernel
theorem dX9_greatestWire_92 : decode cX9_greatestWire 92 = .ok (.iload_n 2, 1) := by decide +kernel
theorem dX9_greatestWire_93 : decode cX9_greatestWire 93 = .ok (.ireturn, 1) := by decide +kernel
theorem dX9_round_0 : decode cX9_round 0 = .ok (.iconst 0, 1) := by decide +kernel
theorem dX9_round_1 : decode cX9_round 1 = .ok (.istore_n 2, 1) := by decide +kernel
theorem dX9_round_2 : decode cX9_round 2 = .ok (.iconst 0, 1) := by decide +kernel
theorem dX9_round_3 : decode cX9_round 3 = .ok (.istore_n 3, 1) := by decide +kernel
theorem dX9_round_4 : decode cX9_round 4 = .ok (.iload_n 3, 1) := by decide +kernel
theorem dX9_round_5 : decode cX9_round 5 = .ok (.aload_n 0, 1) := by decide +kernel
theorem dX9_round_6 : decode cX9_round 6 = .ok (.getfield 7, 3) := by decide +kernel
theorem dX9_round_9 : decode cX9_round 9 = .ok (.iconst 0, 1) := by decide +kernel
theorem dX9_round_10 : decode cX9_round 10 = .ok (.iaload, 1) := by decide +kernel
theorem dX9_round_11 : decode cX9_round 11 = .ok (.if_icmp .ge 63, 3) := by decide +kernel
theorem dX9_round_14 : decode cX9_round 14 = .ok (.iload_n 3, 1) := by decide +kernel
theorem dX9_round_15 : decode cX9_round 15 = .ok (.iconst 1, 1) := by decide +kernel
theorem dX9_round_16 : decode cX9_round 16 = .ok (.iadd, 1) := by decide +kernel
theorem dX9_round_17 : decode cX9_round 17 = .ok (.aload_n 0, 1) := by decide +kernel
theorem dX9_round_18 : decode cX9_round 18 = .ok (.getfield 7, 3) := by decide +kernel
theorem dX9_round_21 : decode cX9_round 21 = .ok (.iconst 0, 1) := by decide +kernel
theorem dX9_round_22 : decode cX9_round 22 = .ok (.iaload, 1) := by decide +kernel
theorem dX9_round_23 : decode cX9_round 23 = .ok (.irem, 1) := by decide +kernel
theorem dX9_round_24 : decode cX9_round 24 = .ok (.istore 4, 2) := by decide +kernel
theorem dX9_round_26 : decode cX9_round 26 = .ok (.iload_n 2, 1) := by decide +kernel
theorem dX9_round_27 : decode cX9_round 27 = .ok (.iload_n 1, 1) := by decide +kernel
theorem dX9_round_28 : decode cX9_round 28 = .ok (.ifCond .eq 22, 3) := by decide +kernel
theorem dX9_round_31 : decode cX9_round 31 = .ok (.aload_n 0, 1) := by decide +kernel
theorem dX9_round_32 : decode cX9_round 32 = .ok (.getfield 7, 3) := by decide +kernel
theorem dX9_round_35 : decode cX9_round 35 = .ok (.sipush 184, 3) := by decide +kernel
theorem dX9_round_38 : decode cX9_round 38 = .ok (.bipush 8, 2) := by decide +kernel
theorem dX9_round_40 : decode cX9_round 40 = .ok (.iload_n 3, 1) := by decide +kernel
theorem dX9_round_41 : decode cX9_round 41 = .ok (.imul, 1) := by decide +kernel
theorem dX9_round_42 : decode cX9_round 42 = .ok (.iadd, 1) := by decide +kernel
theorem dX9_round_43 : decode cX9_round 43 = .ok (.iload 4, 2) := by decide +kernel
theorem dX9_round_45 : decode cX9_round 45 = .ok (.iadd, 1) := by decide +kernel
theorem dX9_round_46 : decode cX9_round 46 = .ok (.iaload, 1) := by decide +kernel
theorem dX9_round_47 : decode cX9_round 47 = .ok (.goto 19, 3) := by decide +kernel
theorem dX9_round_50 : decode cX9_round 50 = .ok (.aload_n 0, 1) := by decide +kernel
theorem dX9_round_51 : decode cX9_round 51 = .ok (.getfield 7, 3) := by decide +kernel
theorem dX9_round_54 : decode cX9_round 54 = .ok (.sipush 184, 3) := by decide +kernel
theorem dX9_round_57 : decode cX9_round 57 = .ok (.bipush 8, 2) := by decide +kernel
theorem dX9_round_59 : decode cX9_round 59 = .ok (.iload 4, 2) := by decide +kernel
theorem dX9_round_61 : decode cX9_round 61 = .ok (.imul, 1) := by decide +kernel
theorem dX9_round_62 : decode cX9_round 62 = .ok (.iadd, 1) := by decide +kernel
theorem dX9_round_63 : decode cX9_round 63 = .ok (.iload_n 3, 1) := by decide +kernel
theorem dX9_round_64 : decode cX9_round 64 = .ok (.iadd, 1) := by decide +kernel
theorem dX9_round_65 : decode cX9_round 65 = .ok (.iaload, 1) := by decide +kernel
theorem dX9_round_66 : decode cX9_round 66 = .ok (.iadd, 1) := by decide +kernel
theorem dX9_round_67 : decode cX9_round 67 = .ok (.istore_n 2, 1) := by decide +kernel
theorem dX9_round_68 : decode cX9_round 68 = .ok (.iinc 3 1, 3) := by decide +kernel
theorem dX9_round_71 : decode cX9_round 71 = .ok (.goto (-67), 3) := by decide +kernel
theorem dX9_round_74 : decode cX9_round 74 = .ok (.iload_n 2, 1) := by decide +kernel
theorem dX9_round_75 : decode cX9_round 75 = .ok (.ireturn, 1) := by decide +kernel
theorem dX9_boundOf_0 : decode cX9_boundOf 0 = .ok (.iload_n 1, 1) := by decide +kernel
theorem dX9_boundOf_1 : decode cX9_boundOf 1 = .ok (.lookupswitch 46 #[(0, 27), (2, 40)], 27) := by decide +kernel
theorem dX9_boundOf_28 : decode cX9_boundOf 28 = .ok (.aload_n 0, 1) := by decide +kernel
theorem dX9_boundOf_29 : decode cX9_boundOf 29 = .ok (.getfield 7, 3) := by decide +kernel
theorem dX9_boundOf_32 : decode cX9_boundOf 32 = .ok (.iconst 0, 1) := by decide +kernel
theorem dX9_boundOf_33 : decode cX9_boundOf 33 = .ok (.iaload, 1) := by decide +kernel
theorem dX9_boundOf_34 : decode cX9_boundOf 34 = .ok (.aload_n 0, 1) := by decide +kernel
theorem dX9_boundOf_35 : decode cX9_boundOf 35 = .ok (.iconst 0, 1) := by decide +kernel
theorem dX9_boundOf_36 : decode cX9_boundOf 36 = .ok (.invokevirtual 259, 3) := by decide +kernel
theorem dX9_boundOf_39 : decode cX9_boundOf 39 = .ok (.imul, 1) := by decide +kernel
theorem dX9_boundOf_40 : decode cX9_boundOf 40 = .ok (.ireturn, 1) := by decide +kernel
theorem dX9_boundOf_41 : decode cX9_boundOf 41 = .ok (.aload_n 0, 1) := by decide +kernel
theorem dX9_boundOf_42 : decode cX9_boundOf 42 = .ok (.iconst 1, 1) := by decide +kernel
theorem dX9_boundOf_43 : decode cX9_boundOf 43 = .ok (.invokevirtual 259, 3) := by decide +kernel
theorem dX9_boundOf_46 : decode cX9_boundOf 46 = .ok (.ireturn, 1) := by decide +kernel
theorem dX9_boundOf_47 : decode cX9_boundOf 47 = .ok (.iconst 3, 1) := by decide +kernel
theorem dX9_boundOf_48 : decode cX9_boundOf 48 = .ok (.aload_n 0, 1) := by decide +kernel
theorem dX9_boundOf_49 : decode cX9_boundOf 49 = .ok (.iload_n 1, 1) := by decide +kernel
theorem dX9_boundOf_50 : decode cX9_boundOf 50 = .ok (.iconst 3, 1) := by decide +kernel
theorem dX9_boundOf_51 : decode cX9_boundOf 51 = .ok (.if_icmp .ne 7, 3) := by decide +kernel
theorem dX9_boundOf_54 : decode cX9_boundOf 54 = .ok (.iconst 1, 1) := by decide +kernel
theorem dX9_boundOf_55 : decode cX9_boundOf 55 = .ok (.goto 4, 3) := by decide +kernel
theorem dX9_boundOf_58 : decode cX9_boundOf 58 = .ok (.iconst 0, 1) := by decide +kernel
theorem dX9_boundOf_59 : decode cX9_boundOf 59 = .ok (.invokevirtual 262, 3) := by decide +kernel
theorem dX9_boundOf_62 : decode cX9_boundOf 62 = .ok (.imul, 1) := by decide +kernel
theorem dX9_boundOf_63 : decode cX9_boundOf 63 = .ok (.ireturn, 1) := by decide +kernel
theorem dX9_bound_0 : decode cX9_bound 0 = .ok (.aload_n 0, 1) := by decide +kernel
theorem dX9_bound_1 : decode cX9_bound 1 = .ok (.iconst 1, 1) := by decide +kernel
theorem dX9_bound_2 : decode cX9_bound 2 = .ok (.iload_n 1, 1) := by decide +kernel
theorem dX9_bound_3 : decode cX9_bound 3 = .ok (.invokevirtual 249, 3) := by decide +kernel
theorem dX9_bound_6 : decode cX9_bound 6 = .ok (.ifCond .eq 11, 3) := by decide +kernel
theorem dX9_bound_9 : decode cX9_bound 9 = .ok (.aload_n 0, 1) := by decide +kernel
theorem dX9_bound_10 : decode cX9_bound 10 = .ok (.iload_n 1, 1) := by decide +kernel
theorem dX9_bound_11 : decode cX9_bound 11 = .ok (.invokevirtual 265, 3) := by decide +kernel
theorem dX9_bound_14 : decode cX9_bound 14 = .ok (.goto 4, 3) := by decide +kernel
theorem dX9_bound_17 : decode cX9_bound 17 = .ok (.iconst (-1), 1) := by decide +kernel
theorem dX9_bound_18 : decode cX9_bound 18 = .ok (.ireturn, 1) := by decide +kernel
theorem dX9_best_0 : decode cX9_best 0 = .ok (.aload_n 0, 1) := by decide +kernel
theorem dX9_best_1 : decode cX9_best 1 = .ok (.iconst 0, 1) := by decide +kernel
theorem dX9_best_2 : decode cX9_best 2 = .ok (.putfield 37, 3) := by decide +kernel
theorem dX9_best_5 : decode cX9_best 5 = .ok (.aload_n 0, 1) := by decide +kernel
theorem dX9_best_6 : decode cX9_best 6 = .ok (.iconst 0, 1) := by decide +kernel
theorem dX9_best_7 : decode cX9_best 7 = .ok (.putfield 40, 3) := by decide +kernel
theorem dX9_best_10 : decode cX9_best 10 = .ok (.iload_n 1, 1) := by decide +kernel
theorem dX9_best_11 : decode cX9_best 11 = .ok (.iconst 0, 1) := by decide +kernel
theorem dX9_best_12 : decode cX9_best 12 = .ok (.iconst 1, 1) := by decide +kernel
theorem dX9_best_13 : decode cX9_best 13 = .ok (.invokestatic 43, 3) := by decide +kernel
theorem dX9_best_16 : decode cX9_best 16 = .ok (.ifCond .ne 9, 3) := by decide +kernel
theorem dX9_best_19 : decode cX9_best 19 = .ok (.aload_n 0, 1) := by decide +kernel
theorem dX9_best_20 : decode cX9_best 20 = .ok (.iconst 1, 1) := by decide +kernel
theorem dX9_best_21 : decode cX9_best 21 = .ok (.invokevirtual 225, 3) := by decide +kernel
theorem dX9_best_24 : decode cX9_best 24 = .ok (.ireturn, 1) := by decide +kernel
theorem dX9_best_25 : decode cX9_best 25 = .ok (.iconst (-1), 1) := by decide +kernel
theorem dX9_best_26 : decode cX9_best 26 = .ok (.istore_n 2, 1) := by decide +kernel
theorem dX9_best_27 : decode cX9_best 27 = .ok (.iconst 0, 1) := by decide +kernel
theorem dX9_best_28 : decode cX9_best 28 = .ok (.istore_n 3, 1) := by decide +kernel
theorem dX9_best_29 : decode cX9_best 29 = .ok (.iload_n 3, 1) := by decide +kernel
theorem dX9_best_30 : decode cX9_best 30 = .ok (.iconst 4, 1) := by decide +kernel
theorem dX9_best_31 : decode cX9_best 31 = .ok (.if_icmp .ge 83, 3) := by decide +kernel
theorem dX9_best_34 : decode cX9_best 34 = .ok (.aload_n 0, 1) := by decide +kernel
theorem dX9_best_35 : decode cX9_best 35 = .ok (.iload_n 3, 1) := by decide +kernel
theorem dX9_best_36 : decode cX9_best 36 = .ok (.invokevirtual 108, 3) := by decide +kernel
theorem dX9_best_39 : decode cX9_best 39 = .ok (.ifCond .ne 6, 3) := by decide +kernel
theorem dX9_best_42 : decode cX9_best 42 = .ok (.goto 66, 3) := by decide +kernel
theorem dX9_best_45 : decode cX9_best 45 = .ok (.iload_n 2, 1) := by decide +kernel
theorem dX9_best_46 : decode cX9_best 46 = .ok (.ifCond .lt 48, 3) := by decide +kernel
theorem dX9_best_49 : decode cX9_best 49 = .ok (.iload_n 1, 1) := by decide +kernel
theorem dX9_best_50 : decode cX9_best 50 = .ok (.ifCond .ne 19, 3) := by decide +kernel
theorem dX9_best_53 : decode cX9_best 53 = .ok (.aload_n 0, 1) := by decide +kernel
theorem dX9_best_54 : decode cX9_best 54 = .ok (.iload_n 3, 1) := by decide +kernel
theorem dX9_best_55 : decode cX9_best 55 = .ok (.invokevirtual 256, 3) := by decide +kernel
theorem dX9_best_58 : decode cX9_best 58 = .ok (.aload_n 0, 1) := by decide +kernel
theorem dX9_best_59 : decode cX9_best 59 = .ok (.iload_n 2, 1) := by decide +kernel
theorem dX9_best_60 : decode cX9_best 60 = .ok (.invokevirtual 256, 3) := by decide +kernel
theorem dX9_best_63 : decode cX9_best 63 = .ok (.if_icmp .ge 31, 3) := by decide +kernel
theorem dX9_best_66 : decode cX9_best 66 = .ok (.goto 24, 3) := by decide +kernel
theorem dX9_best_69 : decode cX9_best 69 = .ok (.aload_n 0, 1) := by decide +kernel
theorem dX9_best_70 : decode cX9_best 70 = .ok (.getfield 7, 3) := by decide +kernel
theorem dX9_best_73 : decode cX9_best 73 = .ok (.bipush 12, 2) := by decide +kernel
theorem dX9_best_75 : decode cX9_best 75 = .ok (.iload_n 3, 1) := by decide +kernel
theorem dX9_best_76 : decode cX9_best 76 = .ok (.iadd, 1) := by decide +kernel
theorem dX9_best_77 : decode cX9_best 77 = .ok (.iaload, 1) := by decide +kernel
theorem dX9_best_78 : decode cX9_best 78 = .ok (.aload_n 0, 1) := by decide +kernel
theorem dX9_best_79 : decode cX9_best 79 = .ok (.getfield 7, 3) := by decide +kernel
theorem dX9_best_82 : decode cX9_best 82 = .ok (.bipush 12, 2) := by decide +kernel
theorem dX9_best_84 : decode cX9_best 84 = .ok (.iload_n 2, 1) := by decide +kernel
theorem dX9_best_85 : decode cX9_best 85 = .ok (.iadd, 1) := by decide +kernel
theorem dX9_best_86 : decode cX9_best 86 = .ok (.iaload, 1) := by decide +kernel
theorem dX9_best_87 : decode cX9_best 87 = .ok (.if_icmp .ge 7, 3) := by decide +kernel
theorem dX9_best_90 : decode cX9_best 90 = .ok (.iconst 1, 1) := by decide +kernel
theorem dX9_best_91 : decode cX9_best 91 = .ok (.goto 4, 3) := by decide +kernel
theorem dX9_best_94 : decode cX9_best 94 = .ok (.iconst 0, 1) := by decide +kernel
theorem dX9_best_95 : decode cX9_best 95 = .ok (.istore 4, 2) := by decide +kernel
theorem dX9_best_97 : decode cX9_best 97 = .ok (.iload_n 2, 1) := by decide +kernel
theorem dX9_best_98 : decode cX9_best 98 = .ok (.ifCond .lt 8, 3) := by decide +kernel
theorem dX9_best_101 : decode cX9_best 101 = .ok (.iload 4, 2) := by decide +kernel
theorem dX9_best_103 : decode cX9_best 103 = .ok (.ifCond .eq 5, 3) := by decide +kernel
theorem dX9_best_106 : decode cX9_best 106 = .ok (.iload_n 3, 1) := by decide +kernel
theorem dX9_best_107 : decode cX9_best 107 = .ok (.istore_n 2, 1) := by decide +kernel
theorem dX9_best_108 : decode cX9_best 108 = .ok (.iinc 3 1, 3) := by decide +kernel
theorem dX9_best_111 : decode cX9_best 111 = .ok (.goto (-82), 3) := by decide +kernel
theorem dX9_best_114 : decode cX9_best 114 = .ok (.iload_n 2, 1) := by decide +kernel
theorem dX9_best_115 : decode cX9_best 115 = .ok (.ifCond .ge 11, 3) := by decide +kernel
theorem dX9_best_118 : decode cX9_best 118 = .ok (.aload_n 0, 1) := by decide +kernel
theorem dX9_best_119 : decode cX9_best 119 = .ok (.iconst 5, 1) := by decide +kernel
theorem dX9_best_120 : decode cX9_best 120 = .ok (.invokevirtual 225, 3) := by decide +kernel
theorem dX9_best_123 : decode cX9_best 123 = .ok (.goto 4, 3) := by decide +kernel
theorem dX9_best_126 : decode cX9_best 126 = .ok (.iload_n 2, 1) := by decide +kernel
theorem dX9_best_127 : decode cX9_best 127 = .ok (.ireturn, 1) := by decide +kernel
theorem dX9_weights_0 : decode cX9_weights 0 = .ok (.aload_n 0, 1) := by decide +kernel
theorem dX9_weights_1 : decode cX9_weights 1 = .ok (.iconst 0, 1) := by decide +kernel
theorem dX9_weights_2 : decode cX9_weights 2 = .ok (.putfield 37, 3) := by decide +kernel
theorem dX9_weights_5 : decode cX9_weights 5 = .ok (.aload_n 0, 1) := by decide +kernel
theorem dX9_weights_6 : decode cX9_weights 6 = .ok (.iconst 0, 1) := by decide +kernel
theorem dX9_weights_7 : decode cX9_weights 7 = .ok (.putfield 40, 3) := by decide +kernel
theorem dX9_weights_10 : decode cX9_weights 10 = .ok (.iload_n 1, 1) := by decide +kernel
theorem dX9_weights_11 : decode cX9_weights 11 = .ok (.iconst 0, 1) := by decide +kernel
theorem dX9_weights_12 : decode cX9_weights 12 = .ok (.iconst 3, 1) := by decide +kernel
theorem dX9_weights_13 : decode cX9_weights 13 = .ok (.invokestatic 43, 3) := by decide +kernel
theorem dX9_weights_16 : decode cX9_weights 16 = .ok (.ifCond .ne 9, 3) := by decide +kernel
theorem dX9_weights_19 : decode cX9_weights 19 = .ok (.aload_n 0, 1) := by decide +kernel
theorem dX9_weights_20 : decode cX9_weights 20 = .ok (.iconst 1, 1) := by decide +kernel
theorem dX9_weights_21 : decode cX9_weights 21 = .ok (.invokevirtual 225, 3) := by decide +kernel
theorem dX9_weights_24 : decode cX9_weights 24 = .ok (.ireturn, 1) := by decide +kernel
theorem dX9_weights_25 : decode cX9_weights 25 = .ok (.iload_n 1, 1) := by decide +kernel
theorem dX9_weights_26 : decode cX9_weights 26 = .ok (.ifCond .ne 10, 3) := by decide +kernel
theorem dX9_weights_29 : decode cX9_weights 29 = .ok (.aload_n 0, 1) := by decide +kernel
theorem dX9_weights_30 : decode cX9_weights 30 = .ok (.bipush 72, 2) := by decide +kernel
theorem dX9_weights_32 : decode cX9_weights 32 = .ok (.invokevirtual 131, 3) := by decide +kernel
theorem dX9_weights_35 : decode cX9_weights 35 = .ok (.ireturn, 1) := by decide +kernel
theorem dX9_weights_36 : decode cX9_weights 36 = .ok (.iload_n 1, 1) := by decide +kernel
theorem dX9_weights_37 : decode cX9_weights 37 = .ok (.iconst 1, 1) := by decide +kernel
theorem dX9_weights_38 : decode cX9_weights 38 = .ok (.if_icmp .le 26, 3) := by decide +kernel
theorem dX9_weights_41 : decode cX9_weights 41 = .ok (.iload_n 1, 1) := by decide +kernel
theorem dX9_weights_42 : decode cX9_weights 42 = .ok (.iconst 2, 1) := by decide +kernel
theorem dX9_weights_43 : decode cX9_weights 43 = .ok (.if_icmp .ne 13, 3) := by decide +kernel
theorem dX9_weights_46 : decode cX9_weights 46 = .ok (.aload_n 0, 1) := by decide +kernel
theorem dX9_weights_47 : decode cX9_weights 47 = .ok (.getfield 7, 3) := by decide +kernel
theorem dX9_weights_50 : decode cX9_weights 50 = .ok (.bipush 23, 2) := by decide +kernel
theorem dX9_weights_52 : decode cX9_weights 52 = .ok (.iaload, 1) := by decide +kernel
theorem dX9_weights_53 : decode cX9_weights 53 = .ok (.goto 10, 3) := by decide +kernel
theorem dX9_weights_56 : decode cX9_weights 56 = .ok (.aload_n 0, 1) := by decide +kernel
theorem dX9_weights_57 : decode cX9_weights 57 = .ok (.getfield 7, 3) := by decide +kernel
theorem dX9_weights_60 : decode cX9_weights 60 = .ok (.bipush 22, 2) := by decide +kernel
theorem dX9_weights_62 : decode cX9_weights 62 = .ok (.iaload, 1) := by decide +kernel
theorem dX9_weights_63 : decode cX9_weights 63 = .ok (.ireturn, 1) := by decide +kernel
theorem dX9_weights_64 : decode cX9_weights 64 = .ok (.iconst 0, 1) := by decide +kernel
theorem dX9_weights_65 : decode cX9_weights 65 = .ok (.istore_n 2, 1) := by decide +kernel
theorem dX9_weights_66 : decode cX9_weights 66 = .ok (.iconst 0, 1) := by decide +kernel
theorem dX9_weights_67 : decode cX9_weights 67 = .ok (.istore_n 3, 1) := by decide +kernel
theorem dX9_weights_68 : decode cX9_weights 68 = .ok (.iload_n 3, 1) := by decide +kernel
theorem dX9_weights_69 : decode cX9_weights 69 = .ok (.aload_n 0, 1) := by decide +kernel
theorem dX9_weights_70 : decode cX9_weights 70 = .ok (.getfield 7, 3) := by decide +kernel
theorem dX9_weights_73 : decode cX9_weights 73 = .ok (.iconst 2, 1) := by decide +kernel
theorem dX9_weights_74 : decode cX9_weights 74 = .ok (.iaload, 1) := by decide +kernel
theorem dX9_weights_75 : decode cX9_weights 75 = .ok (.if_icmp .ge 18, 3) := by decide +kernel
theorem dX9_weights_78 : decode cX9_weights 78 = .ok (.iload_n 2, 1) := by decide +kernel
theorem dX9_weights_79 : decode cX9_weights 79 = .ok (.aload_n 0, 1) := by decide +kernel
theorem dX9_weights_80 : decode cX9_weights 80 = .ok (.iload_n 3, 1) := by decide +kernel
theorem dX9_weights_81 : decode cX9_weights 81 = .ok (.iconst 5, 1) := by decide +kernel
theorem dX9_weights_82 : decode cX9_weights 82 = .ok (.invokevirtual 87, 3) := by decide +kernel
theorem dX9_weights_85 : decode cX9_weights 85 = .ok (.iadd, 1) := by decide +kernel
theorem dX9_weights_86 : decode cX9_weights 86 = .ok (.istore_n 2, 1) := by decide +kernel
theorem dX9_weights_87 : decode cX9_weights 87 = .ok (.iinc 3 1, 3) := by decide +kernel
theorem dX9_weights_90 : decode cX9_weights 90 = .ok (.goto (-22), 3) := by decide +kernel
theorem dX9_weights_93 : decode cX9_weights 93 = .ok (.iload_n 2, 1) := by decide +kernel
theorem dX9_weights_94 : decode cX9_weights 94 = .ok (.ireturn, 1) := by decide +kernel
theorem dX9_last_0 : decode cX9_last 0 = .ok (.aload_n 0, 1) := by decide +kernel
theorem dX9_last_1 : decode cX9_last 1 = .ok (.iconst 0, 1) := by decide +kernel
theorem dX9_last_2 : decode cX9_last 2 = .ok (.putfield 37, 3) := by decide +kernel
theorem dX9_last_5 : decode cX9_last 5 = .ok (.aload_n 0, 1) := by decide +kernel
theorem dX9_last_6 : decode cX9_last 6 = .ok (.iconst 0, 1) := by decide +kernel
theorem dX9_last_7 : decode cX9_last 7 = .ok (.putfield 40, 3) := by decide +kernel
theorem dX9_last_10 : decode cX9_last 10 = .ok (.iload_n 1, 1) := by decide +kernel
theorem dX9_last_11 : decode cX9_last 11 = .ok (.iconst 0, 1) := by decide +kernel
theorem dX9_last_12 : decode cX9_last 12 = .ok (.iconst 3, 1) := by decide +kernel
theorem dX9_last_13 : decode cX9_last 13 = .ok (.invokestatic 43, 3) := by decide +kernel
theorem dX9_last_16 : decode cX9_last 16 = .ok (.ifCond .ne 9, 3) := by decide +kernel
theorem dX9_last_19 : decode cX9_last 19 = .ok (.aload_n 0, 1) := by decide +kernel
theorem dX9_last_20 : decode cX9_last 20 = .ok (.iconst 1, 1) := by decide +kernel
theorem dX9_last_21 : decode cX9_last 21 = .ok (.invokevirtual 225, 3) := by decide +kernel
theorem dX9_last_24 : decode cX9_last 24 = .ok (.ireturn, 1) := by decide +kernel
theorem dX9_last_25 : decode cX9_last 25 = .ok (.aload_n 0, 1) := by decide +kernel
theorem dX9_last_26 : decode cX9_last 26 = .ok (.getfield 7, 3) := by decide +kernel
theorem dX9_last_29 : decode cX9_last 29 = .ok (.bipush 37, 2) := by decide +kernel
theorem dX9_last_31 : decode cX9_last 31 = .ok (.iaload, 1) := by decide +kernel
theorem dX9_last_32 : decode cX9_last 32 = .ok (.istore_n 2, 1) := by decide +kernel
theorem dX9_last_33 : decode cX9_last 33 = .ok (.aload_n 0, 1) := by decide +kernel
theorem dX9_last_34 : decode cX9_last 34 = .ok (.getfield 7, 3) := by decide +kernel
theorem dX9_last_37 : decode cX9_last 37 = .ok (.bipush 6, 2) := by decide +kernel
theorem dX9_last_39 : decode cX9_last 39 = .ok (.iaload, 1) := by decide +kernel
theorem dX9_last_40 : decode cX9_last 40 = .ok (.iconst (-1), 1) := by decide +kernel
theorem dX9_last_41 : decode cX9_last 41 = .ok (.if_icmp .eq 18, 3) := by decide +kernel
theorem dX9_last_44 : decode cX9_last 44 = .ok (.iload_n 2, 1) := by decide +kernel
theorem dX9_last_45 : decode cX9_last 45 = .ok (.ifCond .lt 14, 3) := by decide +kernel
theorem dX9_last_48 : decode cX9_last 48 = .ok (.aload_n 0, 1) := by decide +kernel
theorem dX9_last_49 : decode cX9_last 49 = .ok (.iload_n 2, 1) := by decide +kernel
theorem dX9_last_50 : decode cX9_last 50 = .ok (.sipush 128, 3) := by decide +kernel
theorem dX9_last_53 : decode cX9_last 53 = .ok (.invokevirtual 47, 3) := by decide +kernel
theorem dX9_last_56 : decode cX9_last 56 = .ok (.ifCond .ge 9, 3) := by decide +kernel
theorem dX9_last_59 : decode cX9_last 59 = .ok (.aload_n 0, 1) := by decide +kernel
theorem dX9_last_60 : decode cX9_last 60 = .ok (.iconst 5, 1) := by decide +kernel
theorem dX9_last_61 : decode cX9_last 61 = .ok (.invokevirtual 225, 3) := by decide +kernel
theorem dX9_last_64 : decode cX9_last 64 = .ok (.ireturn, 1) := by decide +kernel
theorem dX9_last_65 : decode cX9_last 65 = .ok (.iload_n 1, 1) := by decide +kernel
theorem dX9_last_66 : decode cX9_last 66 = .ok (.ifCond .ne 13, 3) := by decide +kernel
theorem dX9_last_69 : decode cX9_last 69 = .ok (.aload_n 0, 1) := by decide +kernel
theorem dX9_last_70 : decode cX9_last 70 = .ok (.iload_n 2, 1) := by decide +kernel
theorem dX9_last_71 : decode cX9_last 71 = .ok (.bipush 80, 2) := by decide +kernel
theorem dX9_last_73 : decode cX9_last 73 = .ok (.invokevirtual 47, 3) := by decide +kernel
theorem dX9_last_76 : decode cX9_last 76 = .ok (.goto 36, 3) := by decide +kernel
theorem dX9_last_79 : decode cX9_last 79 = .ok (.iload_n 1, 1) := by decide +kernel
theorem dX9_last_80 : decode cX9_last 80 = .ok (.iconst 1, 1) := by decide +kernel
theorem dX9_last_81 : decode cX9_last 81 = .ok (.if_icmp .ne 14, 3) := by decide +kernel
theorem dX9_last_84 : decode cX9_last 84 = .ok (.aload_n 0, 1) := by decide +kernel
theorem dX9_last_85 : decode cX9_last 85 = .ok (.iload_n 2, 1) := by decide +kernel
theorem dX9_last_86 : decode cX9_last 86 = .ok (.sipush 128, 3) := by decide +kernel
theorem dX9_last_89 : decode cX9_last 89 = .ok (.invokevirtual 47, 3) := by decide +kernel
theorem dX9_last_92 : decode cX9_last 92 = .ok (.goto 20, 3) := by decide +kernel
theorem dX9_last_95 : decode cX9_last 95 = .ok (.iload_n 1, 1) := by decide +kernel
theorem dX9_last_96 : decode cX9_last 96 = .ok (.iconst 2, 1) := by decide +kernel
theorem dX9_last_97 : decode cX9_last 97 = .ok (.if_icmp .ne 7, 3) := by decide +kernel
theorem dX9_last_100 : decode cX9_last 100 = .ok (.iload_n 2, 1) := by decide +kernel
theorem dX9_last_101 : decode cX9_last 101 = .ok (.goto 11, 3) := by decide +kernel
theorem dX9_last_104 : decode cX9_last 104 = .ok (.aload_n 0, 1) := by decide +kernel
theorem dX9_last_105 : decode cX9_last 105 = .ok (.iload_n 2, 1) := by decide +kernel
theorem dX9_last_106 : decode cX9_last 106 = .ok (.sipush 136, 3) := by decide +kernel
theorem dX9_last_109 : decode cX9_last 109 = .ok (.invokevirtual 47, 3) := by decide +kernel
theorem dX9_last_112 : decode cX9_last 112 = .ok (.ireturn, 1) := by decide +kernel
theorem dX9_ledger_0 : decode cX9_ledger 0 = .ok (.aload_n 0, 1) := by decide +kernel
theorem dX9_ledger_1 : decode cX9_ledger 1 = .ok (.iload_n 3, 1) := by decide +kernel
theorem dX9_ledger_2 : decode cX9_ledger 2 = .ok (.iconst 0, 1) := by decide +kernel
theorem dX9_ledger_3 : decode cX9_ledger 3 = .ok (.iconst 3, 1) := by decide +kernel
theorem dX9_ledger_4 : decode cX9_ledger 4 = .ok (.invokestatic 43, 3) := by decide +kernel
theorem dX9_ledger_7 : decode cX9_ledger 7 = .ok (.iload_n 1, 1) := by decide +kernel
theorem dX9_ledger_8 : decode cX9_ledger 8 = .ok (.iload_n 2, 1) := by decide +kernel
theorem dX9_ledger_9 : decode cX9_ledger 9 = .ok (.invokevirtual 245, 3) := by decide +kernel
theorem dX9_ledger_12 : decode cX9_ledger 12 = .ok (.ifCond .ne 5, 3) := by decide +kernel
theorem dX9_ledger_15 : decode cX9_ledger 15 = .ok (.iconst (-1), 1) := by decide +kernel
theorem dX9_ledger_16 : decode cX9_ledger 16 = .ok (.ireturn, 1) := by decide +kernel
theorem dX9_ledger_17 : decode cX9_ledger 17 = .ok (.aload_n 0, 1) := by decide +kernel
theorem dX9_ledger_18 : decode cX9_ledger 18 = .ok (.getfield 7, 3) := by decide +kernel
theorem dX9_ledger_21 : decode cX9_ledger 21 = .ok (.sipush 248, 3) := by decide +kernel
theorem dX9_ledger_24 : decode cX9_ledger 24 = .ok (.bipush 64, 2) := by decide +kernel
theorem dX9_ledger_26 : decode cX9_ledger 26 = .ok (.iload_n 3, 1) := by decide +kernel
theorem dX9_ledger_27 : decode cX9_ledger 27 = .ok (.imul, 1) := by decide +kernel
theorem dX9_ledger_28 : decode cX9_ledger 28 = .ok (.iadd, 1) := by decide +kernel
theorem dX9_ledger_29 : decode cX9_ledger 29 = .ok (.bipush 8, 2) := by decide +kernel
theorem dX9_ledger_31 : decode cX9_ledger 31 = .ok (.iload_n 1, 1) := by decide +kernel
theorem dX9_ledger_32 : decode cX9_ledger 32 = .ok (.imul, 1) := by decide +kernel
theorem dX9_ledger_33 : decode cX9_ledger 33 = .ok (.iadd, 1) := by decide +kernel
theorem dX9_ledger_34 : decode cX9_ledger 34 = .ok (.iload_n 2, 1) := by decide +kernel
theorem dX9_ledger_35 : decode cX9_ledger 35 = .ok (.iadd, 1) := by decide +kernel
theorem dX9_ledger_36 : decode cX9_ledger 36 = .ok (.iaload, 1) := by decide +kernel
theorem dX9_ledger_37 : decode cX9_ledger 37 = .ok (.ireturn, 1) := by decide +kernel
theorem dX9_cutting_0 : decode cX9_cutting 0 = .ok (.aload_n 0, 1) := by decide +kernel
theorem dX9_cutting_1 : decode cX9_cutting 1 = .ok (.iconst 0, 1) := by decide +kernel
theorem dX9_cutting_2 : decode cX9_cutting 2 = .ok (.putfield 37, 3) := by decide +kernel
theorem dX9_cutting_5 : decode cX9_cutting 5 = .ok (.aload_n 0, 1) := by decide +kernel
theorem dX9_cutting_6 : decode cX9_cutting 6 = .ok (.iconst 0, 1) := by decide +kernel
theorem dX9_cutting_7 : decode cX9_cutting 7 = .ok (.putfield 40, 3) := by decide +kernel
theorem dX9_cutting_10 : decode cX9_cutting 10 = .ok (.iload_n 1, 1) := by decide +kernel
theorem dX9_cutting_11 : decode cX9_cutting 11 = .ok (.iconst 0, 1) := by decide +kernel
theorem dX9_cutting_12 : decode cX9_cutting 12 = .ok (.bipush 8, 2) := by decide +kernel
theorem dX9_cutting_14 : decode cX9_cutting 14 = .ok (.invokestatic 43, 3) := by decide +kernel
theorem dX9_cutting_17 : decode cX9_cutting 17 = .ok (.ifCond .ne 9, 3) := by decide +kernel
theorem dX9_cutting_20 : decode cX9_cutting 20 = .ok (.aload_n 0, 1) := by decide +kernel
theorem dX9_cutting_21 : decode cX9_cutting 21 = .ok (.iconst 1, 1) := by decide +kernel
theorem dX9_cutting_22 : decode cX9_cutting 22 = .ok (.invokevirtual 225, 3) := by decide +kernel
theorem dX9_cutting_25 : decode cX9_cutting 25 = .ok (.ireturn, 1) := by decide +kernel
theorem dX9_cutting_26 : decode cX9_cutting 26 = .ok (.aload_n 0, 1) := by decide +kernel
theorem dX9_cutting_27 : decode cX9_cutting 27 = .ok (.getfield 7, 3) := by decide +kernel
theorem dX9_cutting_30 : decode cX9_cutting 30 = .ok (.bipush 33, 2) := by decide +kernel
theorem dX9_cutting_32 : decode cX9_cutting 32 = .ok (.iaload, 1) := by decide +kernel
theorem dX9_cutting_33 : decode cX9_cutting 33 = .ok (.ifCond .ne 9, 3) := by decide +kernel
theorem dX9_cutting_36 : decode cX9_cutting 36 = .ok (.aload_n 0, 1) := by decide +kernel
theorem dX9_cutting_37 : decode cX9_cutting 37 = .ok (.iconst 5, 1) := by decide +kernel
theorem dX9_cutting_38 : decode cX9_cutting 38 = .ok (.invokevirtual 225, 3) := by decide +kernel
theorem dX9_cutting_41 : decode cX9_cutting 41 = .ok (.ireturn, 1) := by decide +kernel
theorem dX9_cutting_42 : decode cX9_cutting 42 = .ok (.aload_n 0, 1) := by decide +kernel
theorem dX9_cutting_43 : decode cX9_cutting 43 = .ok (.getfield 7, 3) := by decide +kernel
theorem dX9_cutting_46 : decode cX9_cutting 46 = .ok (.bipush 34, 2) := by decide +kernel
theorem dX9_cutting_48 : decode cX9_cutting 48 = .ok (.iaload, 1) := by decide +kernel
theorem dX9_cutting_49 : decode cX9_cutting 49 = .ok (.iconst (-1), 1) := by decide +kernel
theorem dX9_cutting_50 : decode cX9_cutting 50 = .ok (.if_icmp .eq 7, 3) := by decide +kernel
theorem dX9_cutting_53 : decode cX9_cutting 53 = .ok (.iconst 1, 1) := by decide +kernel
theorem dX9_cutting_54 : decode cX9_cutting 54 = .ok (.goto 4, 3) := by decide +kernel
theorem dX9_cutting_57 : decode cX9_cutting 57 = .ok (.iconst 0, 1) := by decide +kernel
theorem dX9_cutting_58 : decode cX9_cutting 58 = .ok (.istore_n 2, 1) := by decide +kernel
theorem dX9_cutting_59 : decode cX9_cutting 59 = .ok (.iload_n 1, 1) := by decide +kernel
theorem dX9_cutting_60 : decode cX9_cutting 60 = .ok (.tableswitch 134 0 7 #[48, 53, 63, 70, 77, 84, 92, 100], 48) := by decide +kernel
theorem dX9_cutting_108 : decode cX9_cutting 108 = .ok (.aload_n 0, 1) := by decide +kernel
theorem dX9_cutting_109 : decode cX9_cutting 109 = .ok (.invokevirtual 268, 3) := by decide +kernel
theorem dX9_cutting_112 : decode cX9_cutting 112 = .ok (.ireturn, 1) := by decide +kernel
theorem dX9_cutting_113 : decode cX9_cutting 113 = .ok (.iload_n 2, 1) := by decide +kernel
theorem dX9_cutting_114 : decode cX9_cutting 114 = .ok (.ifCond .eq 7, 3) := by decide +kernel
theorem dX9_cutting_117 : decode cX9_cutting 117 = .ok (.iconst 1, 1) := by decide +kernel
theorem dX9_cutting_118 : decode cX9_cutting 118 = .ok (.goto 4, 3) := by decide +kernel
theorem dX9_cutting_121 : decode cX9_cutting 121 = .ok (.iconst 0, 1) := by decide +kernel
theorem dX9_cutting_122 : decode cX9_cutting 122 = .ok (.ireturn, 1) := by decide +kernel
theorem dX9_cutting_123 : decode cX9_cutting 123 = .ok (.aload_n 0, 1) := by decide +kernel
theorem dX9_cutting_124 : decode cX9_cutting 124 = .ok (.bipush 104, 2) := by decide +kernel
theorem dX9_cutting_126 : decode cX9_cutting 126 = .ok (.invokevirtual 131, 3) := by decide +kernel
theorem dX9_cutting_129 : decode cX9_cutting 129 = .ok (.ireturn, 1) := by decide +kernel
theorem dX9_cutting_130 : decode cX9_cutting 130 = .ok (.aload_n 0, 1) := by decide +kernel
theorem dX9_cutting_131 : decode cX9_cutting 131 = .ok (.bipush 112, 2) := by decide +kernel
theorem dX9_cutting_133 : decode cX9_cutting 133 = .ok (.invokevirtual 131, 3) := by decide +kernel
theorem dX9_cutting_136 : decode cX9_cutting 136 = .ok (.ireturn, 1) := by decide +kernel
theorem dX9_cutting_137 : decode cX9_cutting 137 = .ok (.aload_n 0, 1) := by decide +kernel
theorem dX9_cutting_138 : decode cX9_cutting 138 = .ok (.bipush 120, 2) := by decide +kernel
theorem dX9_cutting_140 : decode cX9_cutting 140 = .ok (.invokevirtual 131, 3) := by decide +kernel
theorem dX9_cutting_143 : decode cX9_cutting 143 = .ok (.ireturn, 1) := by decide +kernel
theorem dX9_cutting_144 : decode cX9_cutting 144 = .ok (.aload_n 0, 1) := by decide +kernel
theorem dX9_cutting_145 : decode cX9_cutting 145 = .ok (.getfield 7, 3) := by decide +kernel
theorem dX9_cutting_148 : decode cX9_cutting 148 = .ok (.bipush 35, 2) := by decide +kernel
theorem dX9_cutting_150 : decode cX9_cutting 150 = .ok (.iaload, 1) := by decide +kernel
theorem dX9_cutting_151 : decode cX9_cutting 151 = .ok (.ireturn, 1) := by decide +kernel
theorem dX9_cutting_152 : decode cX9_cutting 152 = .ok (.aload_n 0, 1) := by decide +kernel
theorem dX9_cutting_153 : decode cX9_cutting 153 = .ok (.getfield 7, 3) := by decide +kernel
theorem dX9_cutting_156 : decode cX9_cutting 156 = .ok (.bipush 36, 2) := by decide +kernel
theorem dX9_cutting_158 : decode cX9_cutting 158 = .ok (.iaload, 1) := by decide +kernel
theorem dX9_cutting_159 : decode cX9_cutting 159 = .ok (.ireturn, 1) := by decide +kernel
theorem dX9_cutting_160 : decode cX9_cutting 160 = .ok (.iload_n 2, 1) := by decide +kernel
theorem dX9_cutting_161 : decode cX9_cutting 161 = .ok (.ifCond .eq 31, 3) := by decide +kernel
theorem dX9_cutting_164 : decode cX9_cutting 164 = .ok (.aload_n 0, 1) := by decide +kernel
theorem dX9_cutting_165 : decode cX9_cutting 165 = .ok (.bipush 104, 2) := by decide +kernel
theorem dX9_cutting_167 : decode cX9_cutting 167 = .ok (.invokevirtual 131, 3) := by decide +kernel
theorem dX9_cutting_170 : decode cX9_cutting 170 = .ok (.ifCond .ne 22, 3) := by decide +kernel
theorem dX9_cutting_173 : decode cX9_cutting 173 = .ok (.aload_n 0, 1) := by decide +kernel
theorem dX9_cutting_174 : decode cX9_cutting 174 = .ok (.bipush 112, 2) := by decide +kernel
theorem dX9_cutting_176 : decode cX9_cutting 176 = .ok (.invokevirtual 131, 3) := by decide +kernel
theorem dX9_cutting_179 : decode cX9_cutting 179 = .ok (.aload_n 0, 1) := by decide +kernel
theorem dX9_cutting_180 : decode cX9_cutting 180 = .ok (.bipush 120, 2) := by decide +kernel
theorem dX9_cutting_182 : decode cX9_cutting 182 = .ok (.invokevirtual 131, 3) := by decide +kernel
theorem dX9_cutting_185 : decode cX9_cutting 185 = .ok (.if_icmp .ne 7, 3) := by decide +kernel
theorem dX9_cutting_188 : decode cX9_cutting 188 = .ok (.iconst 1, 1) := by decide +kernel
theorem dX9_cutting_189 : decode cX9_cutting 189 = .ok (.goto 4, 3) := by decide +kernel
theorem dX9_cutting_192 : decode cX9_cutting 192 = .ok (.iconst 0, 1) := by decide +kernel
theorem dX9_cutting_193 : decode cX9_cutting 193 = .ok (.ireturn, 1) := by decide +kernel
theorem dX9_cutting_194 : decode cX9_cutting 194 = .ok (.aload_n 0, 1) := by decide +kernel
theorem dX9_cutting_195 : decode cX9_cutting 195 = .ok (.getfield 7, 3) := by decide +kernel
theorem dX9_cutting_198 : decode cX9_cutting 198 = .ok (.bipush 34, 2) := by decide +kernel
theorem dX9_cutting_200 : decode cX9_cutting 200 = .ok (.iaload, 1) := by decide +kernel
theorem dX9_cutting_201 : decode cX9_cutting 201 = .ok (.ireturn, 1) := by decide +kernel
theorem dX9_reds_0 : decode cX9_reds 0 = .ok (.iconst 0, 1) := by decide +kernel
theorem dX9_reds_1 : decode cX9_reds 1 = .ok (.istore_n 1, 1) := by decide +kernel
theorem dX9_reds_2 : decode cX9_reds 2 = .ok (.iconst 0, 1) := by decide +kernel
theorem dX9_reds_3 : decode cX9_reds 3 = .ok (.istore_n 2, 1) := by decide +kernel
theorem dX9_reds_4 : decode cX9_reds 4 = .ok (.iload_n 2, 1) := by decide +kernel
theorem dX9_reds_5 : decode cX9_reds 5 = .ok (.aload_n 0, 1) := by decide +kernel
theorem dX9_reds_6 : decode cX9_reds 6 = .ok (.getfield 7, 3) := by decide +kernel
theorem dX9_reds_9 : decode cX9_reds 9 = .ok (.iconst 0, 1) := by decide +kernel
theorem dX9_reds_10 : decode cX9_reds 10 = .ok (.iaload, 1) := by decide +kernel
theorem dX9_reds_11 : decode cX9_reds 11 = .ok (.if_icmp .ge 21, 3) := by decide +kernel
theorem dX9_reds_14 : decode cX9_reds 14 = .ok (.iload_n 1, 1) := by decide +kernel
theorem dX9_reds_15 : decode cX9_reds 15 = .ok (.aload_n 0, 1) := by decide +kernel
theorem dX9_reds_16 : decode cX9_reds 16 = .ok (.iload_n 2, 1) := by decide +kernel
theorem dX9_reds_17 : decode cX9_reds 17 = .ok (.bipush 96, 2) := by decide +kernel
theorem dX9_reds_19 : decode cX9_reds 19 = .ok (.invokevirtual 47, 3) := by decide +kernel
theorem dX9_reds_22 : decode cX9_reds 22 = .ok (.iload_n 2, 1) := by decide +kernel
theorem dX9_reds_23 : decode cX9_reds 23 = .ok (.ishl, 1) := by decide +kernel
theorem dX9_reds_24 : decode cX9_reds 24 = .ok (.ior, 1) := by decide +kernel
theorem dX9_reds_25 : decode cX9_reds 25 = .ok (.istore_n 1, 1) := by decide +kernel
theorem dX9_reds_26 : decode cX9_reds 26 = .ok (.iinc 2 1, 3) := by decide +kernel
theorem dX9_reds_29 : decode cX9_reds 29 = .ok (.goto (-25), 3) := by decide +kernel
theorem dX9_reds_32 : decode cX9_reds 32 = .ok (.iload_n 1, 1) := by decide +kernel
theorem dX9_reds_33 : decode cX9_reds 33 = .ok (.ireturn, 1) := by decide +kernel
theorem dX9_recorded_0 : decode cX9_recorded 0 = .ok (.aload_n 0, 1) := by decide +kernel
theorem dX9_recorded_1 : decode cX9_recorded 1 = .ok (.iconst 0, 1) := by decide +kernel
theorem dX9_recorded_2 : decode cX9_recorded 2 = .ok (.putfield 37, 3) := by decide +kernel
theorem dX9_recorded_5 : decode cX9_recorded 5 = .ok (.aload_n 0, 1) := by decide +kernel
theorem dX9_recorded_6 : decode cX9_recorded 6 = .ok (.iconst 0, 1) := by decide +kernel
theorem dX9_recorded_7 : decode cX9_recorded 7 = .ok (.putfield 40, 3) := by decide +kernel
theorem dX9_recorded_10 : decode cX9_recorded 10 = .ok (.iload_n 2, 1) := by decide +kernel
theorem dX9_recorded_11 : decode cX9_recorded 11 = .ok (.iconst 0, 1) := by decide +kernel
theorem dX9_recorded_12 : decode cX9_recorded 12 = .ok (.iconst 2, 1) := by decide +kernel
theorem dX9_recorded_13 : decode cX9_recorded 13 = .ok (.invokestatic 43, 3) := by decide +kernel
theorem dX9_recorded_16 : decode cX9_recorded 16 = .ok (.ifCond .ne 9, 3) := by decide +kernel
theorem dX9_recorded_19 : decode cX9_recorded 19 = .ok (.aload_n 0, 1) := by decide +kernel
theorem dX9_recorded_20 : decode cX9_recorded 20 = .ok (.iconst 1, 1) := by decide +kernel
theorem dX9_recorded_21 : decode cX9_recorded 21 = .ok (.invokevirtual 225, 3) := by decide +kernel
theorem dX9_recorded_24 : decode cX9_recorded 24 = .ok (.ireturn, 1) := by decide +kernel
theorem dX9_recorded_25 : decode cX9_recorded 25 = .ok (.aload_n 0, 1) := by decide +kernel
theorem dX9_recorded_26 : decode cX9_recorded 26 = .ok (.iload_n 1, 1) := by decide +kernel
theorem dX9_recorded_27 : decode cX9_recorded 27 = .ok (.invokevirtual 239, 3) := by decide +kernel
theorem dX9_recorded_30 : decode cX9_recorded 30 = .ok (.ifCond .ne 9, 3) := by decide +kernel
theorem dX9_recorded_33 : decode cX9_recorded 33 = .ok (.aload_n 0, 1) := by decide +kernel
theorem dX9_recorded_34 : decode cX9_recorded 34 = .ok (.iconst 2, 1) := by decide +kernel
theorem dX9_recorded_35 : decode cX9_recorded 35 = .ok (.invokevirtual 225, 3) := by decide +kernel
theorem dX9_recorded_38 : decode cX9_recorded 38 = .ok (.ireturn, 1) := by decide +kernel
theorem dX9_recorded_39 : decode cX9_recorded 39 = .ok (.aload_n 0, 1) := by decide +kernel
theorem dX9_recorded_40 : decode cX9_recorded 40 = .ok (.iload_n 1, 1) := by decide +kernel
theorem dX9_recorded_41 : decode cX9_recorded 41 = .ok (.bipush 96, 2) := by decide +kernel
theorem dX9_recorded_43 : decode cX9_recorded 43 = .ok (.invokevirtual 47, 3) := by decide +kernel
theorem dX9_recorded_46 : decode cX9_recorded 46 = .ok (.iconst 1, 1) := by decide +kernel
theorem dX9_recorded_47 : decode cX9_recorded 47 = .ok (.if_icmp .ne 18, 3) := by decide +kernel
theorem dX9_recorded_50 : decode cX9_recorded 50 = .ok (.aload_n 0, 1) := by decide +kernel
theorem dX9_recorded_51 : decode cX9_recorded 51 = .ok (.iload_n 1, 1) := by decide +kernel
theorem dX9_recorded_52 : decode cX9_recorded 52 = .ok (.bipush 104, 2) := by decide +kernel
theorem dX9_recorded_54 : decode cX9_recorded 54 = .ok (.bipush 8, 2) := by decide +kernel
theorem dX9_recorded_56 : decode cX9_recorded 56 = .ok (.iload_n 2, 1) := by decide +kernel
theorem dX9_recorded_57 : decode cX9_recorded 57 = .ok (.imul, 1) := by decide +kernel
theorem dX9_recorded_58 : decode cX9_recorded 58 = .ok (.iadd, 1) := by decide +kernel
theorem dX9_recorded_59 : decode cX9_recorded 59 = .ok (.invokevirtual 47, 3) := by decide +kernel
theorem dX9_recorded_62 : decode cX9_recorded 62 = .ok (.goto 8, 3) := by decide +kernel
theorem dX9_recorded_65 : decode cX9_recorded 65 = .ok (.aload_n 0, 1) := by decide +kernel
theorem dX9_recorded_66 : decode cX9_recorded 66 = .ok (.iconst 5, 1) := by decide +kernel
theorem dX9_recorded_67 : decode cX9_recorded 67 = .ok (.invokevirtual 225, 3) := by decide +kernel
theorem dX9_recorded_70 : decode cX9_recorded 70 = .ok (.ireturn, 1) := by decide +kernel
theorem dX9_event_0 : decode cX9_event 0 = .ok (.aload_n 0, 1) := by decide +kernel
theorem dX9_event_1 : decode cX9_event 1 = .ok (.iconst 0, 1) := by decide +kernel
theorem dX9_event_2 : decode cX9_event 2 = .ok (.putfield 37, 3) := by decide +kernel
theorem dX9_event_5 : decode cX9_event 5 = .ok (.aload_n 0, 1) := by decide +kernel
theorem dX9_event_6 : decode cX9_event 6 = .ok (.iconst 0, 1) := by decide +kernel
theorem dX9_event_7 : decode cX9_event 7 = .ok (.putfield 40, 3) := by decide +kernel
theorem dX9_event_10 : decode cX9_event 10 = .ok (.iload_n 1, 1) := by decide +kernel
theorem dX9_event_11 : decode cX9_event 11 = .ok (.iconst 0, 1) := by decide +kernel
theorem dX9_event_12 : decode cX9_event 12 = .ok (.bipush 23, 2) := by decide +kernel
theorem dX9_event_14 : decode cX9_event 14 = .ok (.invokestatic 43, 3) := by decide +kernel
theorem dX9_event_17 : decode cX9_event 17 = .ok (.ifCond .eq 12, 3) := by decide +kernel
theorem dX9_event_20 : decode cX9_event 20 = .ok (.iload_n 2, 1) := by decide +kernel
theorem dX9_event_21 : decode cX9_event 21 = .ok (.iconst 0, 1) := by decide +kernel
theorem dX9_event_22 : decode cX9_event 22 = .ok (.iconst 2, 1) := by decide +kernel
theorem dX9_event_23 : decode cX9_event 23 = .ok (.invokestatic 43, 3) := by decide +kernel
theorem dX9_event_26 : decode cX9_event 26 = .ok (.ifCond .ne 9, 3) := by decide +kernel
theorem dX9_event_29 : decode cX9_event 29 = .ok (.aload_n 0, 1) := by decide +kernel
theorem dX9_event_30 : decode cX9_event 30 = .ok (.iconst 1, 1) := by decide +kernel
theorem dX9_event_31 : decode cX9_event 31 = .ok (.invokevirtual 225, 3) := by decide +kernel
theorem dX9_event_34 : decode cX9_event 34 = .ok (.ireturn, 1) := by decide +kernel
theorem dX9_event_35 : decode cX9_event 35 = .ok (.iload_n 1, 1) := by decide +kernel
theorem dX9_event_36 : decode cX9_event 36 = .ok (.aload_n 0, 1) := by decide +kernel
theorem dX9_event_37 : decode cX9_event 37 = .ok (.getfield 7, 3) := by decide +kernel
theorem dX9_event_40 : decode cX9_event 40 = .ok (.iconst 3, 1) := by decide +kernel
theorem dX9_event_41 : decode cX9_event 41 = .ok (.iaload, 1) := by decide +kernel
theorem dX9_event_42 : decode cX9_event 42 = .ok (.if_icmp .ge 20, 3) := by decide +kernel
theorem dX9_event_45 : decode cX9_event 45 = .ok (.aload_n 0, 1) := by decide +kernel
theorem dX9_event_46 : decode cX9_event 46 = .ok (.getfield 7, 3) := by decide +kernel
theorem dX9_event_49 : decode cX9_event 49 = .ok (.sipush 8224, 3) := by decide +kernel
theorem dX9_event_52 : decode cX9_event 52 = .ok (.iconst 3, 1) := by decide +kernel
theorem dX9_event_53 : decode cX9_event 53 = .ok (.iload_n 1, 1) := by decide +kernel
theorem dX9_event_54 : decode cX9_event 54 = .ok (.imul, 1) := by decide +kernel
theorem dX9_event_55 : decode cX9_event 55 = .ok (.iadd, 1) := by decide +kernel
theorem dX9_event_56 : decode cX9_event 56 = .ok (.iload_n 2, 1) := by decide +kernel
theorem dX9_event_57 : decode cX9_event 57 = .ok (.iadd, 1) := by decide +kernel
theorem dX9_event_58 : decode cX9_event 58 = .ok (.iaload, 1) := by decide +kernel
theorem dX9_event_59 : decode cX9_event 59 = .ok (.goto 8, 3) := by decide +kernel
theorem dX9_event_62 : decode cX9_event 62 = .ok (.aload_n 0, 1) := by decide +kernel
theorem dX9_event_63 : decode cX9_event 63 = .ok (.iconst 5, 1) := by decide +kernel
theorem dX9_event_64 : decode cX9_event 64 = .ok (.invokevirtual 225, 3) := by decide +kernel
theorem dX9_event_67 : decode cX9_event 67 = .ok (.ireturn, 1) := by decide +kernel
theorem dX9_begin_0 : decode cX9_begin 0 = .ok (.aload_n 0, 1) := by decide +kernel
theorem dX9_begin_1 : decode cX9_begin 1 = .ok (.iconst 0, 1) := by decide +kernel
theorem dX9_begin_2 : decode cX9_begin 2 = .ok (.putfield 37, 3) := by decide +kernel
theorem dX9_begin_5 : decode cX9_begin 5 = .ok (.aload_n 0, 1) := by decide +kernel
theorem dX9_begin_6 : decode cX9_begin 6 = .ok (.iconst 0, 1) := by decide +kernel
theorem dX9_begin_7 : decode cX9_begin 7 = .ok (.putfield 40, 3) := by decide +kernel
theorem dX9_begin_10 : decode cX9_begin 10 = .ok (.iload_n 1, 1) := by decide +kernel
theorem dX9_begin_11 : decode cX9_begin 11 = .ok (.iconst 1, 1) := by decide +kernel
theorem dX9_begin_12 : decode cX9_begin 12 = .ok (.sipush 200, 3) := by decide +kernel
theorem dX9_begin_15 : decode cX9_begin 15 = .ok (.invokestatic 43, 3) := by decide +kernel
theorem dX9_begin_18 : decode cX9_begin 18 = .ok (.ifCond .ne 9, 3) := by decide +kernel
theorem dX9_begin_21 : decode cX9_begin 21 = .ok (.aload_n 0, 1) := by decide +kernel
theorem dX9_begin_22 : decode cX9_begin 22 = .ok (.iconst 1, 1) := by decide +kernel
theorem dX9_begin_23 : decode cX9_begin 23 = .ok (.invokevirtual 225, 3) := by decide +kernel
theorem dX9_begin_26 : decode cX9_begin 26 = .ok (.ireturn, 1) := by decide +kernel
theorem dX9_begin_27 : decode cX9_begin 27 = .ok (.aload_n 0, 1) := by decide +kernel
theorem dX9_begin_28 : decode cX9_begin 28 = .ok (.invokevirtual 144, 3) := by decide +kernel
theorem dX9_begin_31 : decode cX9_begin 31 = .ok (.ifCond .eq 10, 3) := by decide +kernel
theorem dX9_begin_34 : decode cX9_begin 34 = .ok (.aload_n 0, 1) := by decide +kernel
theorem dX9_begin_35 : decode cX9_begin 35 = .ok (.bipush 6, 2) := by decide +kernel
theorem dX9_begin_37 : decode cX9_begin 37 = .ok (.invokevirtual 225, 3) := by decide +kernel
theorem dX9_begin_40 : decode cX9_begin 40 = .ok (.ireturn, 1) := by decide +kernel
theorem dX9_begin_41 : decode cX9_begin 41 = .ok (.aload_n 0, 1) := by decide +kernel
theorem dX9_begin_42 : decode cX9_begin 42 = .ok (.iload_n 1, 1) := by decide +kernel
theorem dX9_begin_43 : decode cX9_begin 43 = .ok (.invokevirtual 271, 3) := by decide +kernel
theorem dX9_begin_46 : decode cX9_begin 46 = .ok (.aload_n 0, 1) := by decide +kernel
theorem dX9_begin_47 : decode cX9_begin 47 = .ok (.getfield 7, 3) := by decide +kernel
theorem dX9_begin_50 : decode cX9_begin 50 = .ok (.iconst 4, 1) := by decide +kernel
theorem dX9_begin_51 : decode cX9_begin 51 = .ok (.iaload, 1) := by decide +kernel
theorem dX9_begin_52 : decode cX9_begin 52 = .ok (.ireturn, 1) := by decide +kernel
theorem dX9_plan_0 : decode cX9_plan 0 = .ok (.aload_n 0, 1) := by decide +kernel
theorem dX9_plan_1 : decode cX9_plan 1 = .ok (.iconst 0, 1) := by decide +kernel
theorem dX9_plan_2 : decode cX9_plan 2 = .ok (.putfield 37, 3) := by decide +kernel
theorem dX9_plan_5 : decode cX9_plan 5 = .ok (.aload_n 0, 1) := by decide +kernel
theorem dX9_plan_6 : decode cX9_plan 6 = .ok (.iconst 0, 1) := by decide +kernel
theorem dX9_plan_7 : decode cX9_plan 7 = .ok (.putfield 40, 3) := by decide +kernel
theorem dX9_plan_10 : decode cX9_plan 10 = .ok (.iload_n 2, 1) := by decide +kernel
theorem dX9_plan_11 : decode cX9_plan 11 = .ok (.iconst 1, 1) := by decide +kernel
theorem dX9_plan_12 : decode cX9_plan 12 = .ok (.sipush 200, 3) := by decide +kernel
theorem dX9_plan_15 : decode cX9_plan 15 = .ok (.invokestatic 43, 3) := by decide +kernel
theorem dX9_plan_18 : decode cX9_plan 18 = .ok (.ifCond .eq 14, 3) := by decide +kernel
theorem dX9_plan_21 : decode cX9_plan 21 = .ok (.iload 4, 2) := by decide +kernel
theorem dX9_plan_23 : decode cX9_plan 23 = .ok (.iconst 1, 1) := by decide +kernel
theorem dX9_plan_24 : decode cX9_plan 24 = .ok (.bipush 20, 2) := by decide +kernel
theorem dX9_plan_26 : decode cX9_plan 26 = .ok (.invokestatic 43, 3) := by decide +kernel
theorem dX9_plan_29 : decode cX9_plan 29 = .ok (.ifCond .ne 9, 3) := by decide +kernel
theorem dX9_plan_32 : decode cX9_plan 32 = .ok (.aload_n 0, 1) := by decide +kernel
theorem dX9_plan_33 : decode cX9_plan 33 = .ok (.iconst 1, 1) := by decide +kernel
theorem dX9_plan_34 : decode cX9_plan 34 = .ok (.invokevirtual 225, 3) := by decide +kernel
theorem dX9_plan_37 : decode cX9_plan 37 = .ok (.ireturn, 1) := by decide +kernel
theorem dX9_plan_38 : decode cX9_plan 38 = .ok (.aload_n 0, 1) := by decide +kernel
theorem dX9_plan_39 : decode cX9_plan 39 = .ok (.iload_n 1, 1) := by decide +kernel
theorem dX9_plan_40 : decode cX9_plan 40 = .ok (.invokevirtual 239, 3) := by decide +kernel
theorem dX9_plan_43 : decode cX9_plan 43 = .ok (.ifCond .eq 11, 3) := by decide +kernel
theorem dX9_plan_46 : decode cX9_plan 46 = .ok (.aload_n 0, 1) := by decide +kernel
theorem dX9_plan_47 : decode cX9_plan 47 = .ok (.iload_n 3, 1) := by decide +kernel
theorem dX9_plan_48 : decode cX9_plan 48 = .ok (.invokevirtual 239, 3) := by decide +kernel
theorem dX9_plan_51 : decode cX9_plan 51 = .ok (.ifCond .ne 9, 3) := by decide +kernel
theorem dX9_plan_54 : decode cX9_plan 54 = .ok (.aload_n 0, 1) := by decide +kernel
theorem dX9_plan_55 : decode cX9_plan 55 = .ok (.iconst 2, 1) := by decide +kernel
theorem dX9_plan_56 : decode cX9_plan 56 = .ok (.invokevirtual 225, 3) := by decide +kernel
theorem dX9_plan_59 : decode cX9_plan 59 = .ok (.ireturn, 1) := by decide +kernel
theorem dX9_plan_60 : decode cX9_plan 60 = .ok (.aload_n 0, 1) := by decide +kernel
theorem dX9_plan_61 : decode cX9_plan 61 = .ok (.getfield 7, 3) := by decide +kernel
theorem dX9_plan_64 : decode cX9_plan 64 = .ok (.iconst 1, 1) := by decide +kernel
theorem dX9_plan_65 : decode cX9_plan 65 = .ok (.iaload, 1) := by decide +kernel
theorem dX9_plan_66 : decode cX9_plan 66 = .ok (.bipush 40, 2) := by decide +kernel
theorem dX9_plan_68 : decode cX9_plan 68 = .ok (.if_icmp .ne 9, 3) := by decide +kernel
theorem dX9_plan_71 : decode cX9_plan 71 = .ok (.aload_n 0, 1) := by decide +kernel
theorem dX9_plan_72 : decode cX9_plan 72 = .ok (.iconst 3, 1) := by decide +kernel
theorem dX9_plan_73 : decode cX9_plan 73 = .ok (.invokevirtual 225, 3) := by decide +kernel
theorem dX9_plan_76 : decode cX9_plan 76 = .ok (.ireturn, 1) := by decide +kernel
theorem dX9_plan_77 : decode cX9_plan 77 = .ok (.iload_n 1, 1) := by decide +kernel
theorem dX9_plan_78 : decode cX9_plan 78 = .ok (.iload_n 3, 1) := by decide +kernel
theorem dX9_plan_79 : decode cX9_plan 79 = .ok (.if_icmp .ne 9, 3) := by decide +kernel
theorem dX9_plan_82 : decode cX9_plan 82 = .ok (.aload_n 0, 1) := by decide +kernel
theorem dX9_plan_83 : decode cX9_plan 83 = .ok (.iconst 4, 1) := by decide +kernel
theorem dX9_plan_84 : decode cX9_plan 84 = .ok (.invokevirtual 225, 3) := by decide +kernel
theorem dX9_plan_87 : decode cX9_plan 87 = .ok (.ireturn, 1) := by decide +kernel
theorem dX9_plan_88 : decode cX9_plan 88 = .ok (.aload_n 0, 1) := by decide +kernel
theorem dX9_plan_89 : decode cX9_plan 89 = .ok (.iload_n 1, 1) := by decide +kernel
theorem dX9_plan_90 : decode cX9_plan 90 = .ok (.iload_n 2, 1) := by decide +kernel
theorem dX9_plan_91 : decode cX9_plan 91 = .ok (.iload_n 3, 1) := by decide +kernel
theorem dX9_plan_92 : decode cX9_plan 92 = .ok (.iload 4, 2) := by decide +kernel
theorem dX9_plan_94 : decode cX9_plan 94 = .ok (.invokevirtual 202, 3) := by decide +kernel
theorem dX9_plan_97 : decode cX9_plan 97 = .ok (.aload_n 0, 1) := by decide +kernel
theorem dX9_plan_98 : decode cX9_plan 98 = .ok (.getfield 7, 3) := by decide +kernel
theorem dX9_plan_101 : decode cX9_plan 101 = .ok (.iconst 1, 1) := by decide +kernel
theorem dX9_plan_102 : decode cX9_plan 102 = .ok (.iaload, 1) := by decide +kernel
theorem dX9_plan_103 : decode cX9_plan 103 = .ok (.iconst 1, 1) := by decide +kernel
theorem dX9_plan_104 : decode cX9_plan 104 = .ok (.isub, 1) := by decide +kernel
theorem dX9_plan_105 : decode cX9_plan 105 = .ok (.ireturn, 1) := by decide +kernel
theorem dX9_drop_0 : decode cX9_drop 0 = .ok (.aload_n 0, 1) := by decide +kernel
theorem dX9_drop_1 : decode cX9_drop 1 = .ok (.iconst 0, 1) := by decide +kernel
theorem dX9_drop_2 : decode cX9_drop 2 = .ok (.putfield 37, 3) := by decide +kernel
theorem dX9_drop_5 : decode cX9_drop 5 = .ok (.aload_n 0, 1) := by decide +kernel
theorem dX9_drop_6 : decode cX9_drop 6 = .ok (.iconst 0, 1) := by decide +kernel
theorem dX9_drop_7 : decode cX9_drop 7 = .ok (.putfield 40, 3) := by decide +kernel
theorem dX9_drop_10 : decode cX9_drop 10 = .ok (.iload_n 1, 1) := by decide +kernel
theorem dX9_drop_11 : decode cX9_drop 11 = .ok (.ifCond .ge 9, 3) := by decide +kernel
theorem dX9_drop_14 : decode cX9_drop 14 = .ok (.aload_n 0, 1) := by decide +kernel
theorem dX9_drop_15 : decode cX9_drop 15 = .ok (.iconst 1, 1) := by decide +kernel
theorem dX9_drop_16 : decode cX9_drop 16 = .ok (.invokevirtual 225, 3) := by decide +kernel
theorem dX9_drop_19 : decode cX9_drop 19 = .ok (.ireturn, 1) := by decide +kernel
theorem dX9_drop_20 : decode cX9_drop 20 = .ok (.iload_n 1, 1) := by decide +kernel
theorem dX9_drop_21 : decode cX9_drop 21 = .ok (.aload_n 0, 1) := by decide +kernel
theorem dX9_drop_22 : decode cX9_drop 22 = .ok (.getfield 7, 3) := by decide +kernel
theorem dX9_drop_25 : decode cX9_drop 25 = .ok (.iconst 1, 1) := by decide +kernel
theorem dX9_drop_26 : decode cX9_drop 26 = .ok (.iaload, 1) := by decide +kernel
theorem dX9_drop_27 : decode cX9_drop 27 = .ok (.if_icmp .lt 9, 3) := by decide +kernel
theorem dX9_drop_30 : decode cX9_drop 30 = .ok (.aload_n 0, 1) := by decide +kernel
theorem dX9_drop_31 : decode cX9_drop 31 = .ok (.iconst 5, 1) := by decide +kernel
theorem dX9_drop_32 : decode cX9_drop 32 = .ok (.invokevirtual 225, 3) := by decide +kernel
theorem dX9_drop_35 : decode cX9_drop 35 = .ok (.ireturn, 1) := by decide +kernel
theorem dX9_drop_36 : decode cX9_drop 36 = .ok (.sipush 504, 3) := by decide +kernel
theorem dX9_drop_39 : decode cX9_drop 39 = .ok (.iconst 4, 1) := by decide +kernel
theorem dX9_drop_40 : decode cX9_drop 40 = .ok (.iload_n 1, 1) := by decide +kernel
theorem dX9_drop_41 : decode cX9_drop 41 = .ok (.imul, 1) := by decide +kernel
theorem dX9_drop_42 : decode cX9_drop 42 = .ok (.iadd, 1) := by decide +kernel
theorem dX9_drop_43 : decode cX9_drop 43 = .ok (.istore_n 2, 1) := by decide +kernel
theorem dX9_drop_44 : decode cX9_drop 44 = .ok (.iload_n 2, 1) := by decide +kernel
theorem dX9_drop_45 : decode cX9_drop 45 = .ok (.sipush 504, 3) := by decide +kernel
theorem dX9_drop_48 : decode cX9_drop 48 = .ok (.iconst 4, 1) := by decide +kernel
theorem dX9_drop_49 : decode cX9_drop 49 = .ok (.aload_n 0, 1) := by decide +kernel
theorem dX9_drop_50 : decode cX9_drop 50 = .ok (.getfield 7, 3) := by decide +kernel
theorem dX9_drop_53 : decode cX9_drop 53 = .ok (.iconst 1, 1) := by decide +kernel
theorem dX9_drop_54 : decode cX9_drop 54 = .ok (.iaload, 1) := by decide +kernel
theorem dX9_drop_55 : decode cX9_drop 55 = .ok (.imul, 1) := by decide +kernel
theorem dX9_drop_56 : decode cX9_drop 56 = .ok (.iadd, 1) := by decide +kernel
theorem dX9_drop_57 : decode cX9_drop 57 = .ok (.iconst 4, 1) := by decide +kernel
theorem dX9_drop_58 : decode cX9_drop 58 = .ok (.isub, 1) := by decide +kernel
theorem dX9_drop_59 : decode cX9_drop 59 = .ok (.if_icmp .ge 23, 3) := by decide +kernel
theorem dX9_drop_62 : decode cX9_drop 62 = .ok (.aload_n 0, 1) := by decide +kernel
theorem dX9_drop_63 : decode cX9_drop 63 = .ok (.getfield 7, 3) := by decide +kernel
theorem dX9_drop_66 : decode cX9_drop 66 = .ok (.iload_n 2, 1) := by decide +kernel
theorem dX9_drop_67 : decode cX9_drop 67 = .ok (.aload_n 0, 1) := by decide +kernel
theorem dX9_drop_68 : decode cX9_drop 68 = .ok (.getfield 7, 3) := by decide +kernel
theorem dX9_drop_71 : decode cX9_drop 71 = .ok (.iload_n 2, 1) := by decide +kernel
theorem dX9_drop_72 : decode cX9_drop 72 = .ok (.iconst 4, 1) := by decide +kernel
theorem dX9_drop_73 : decode cX9_drop 73 = .ok (.iadd, 1) := by decide +kernel
theorem dX9_drop_74 : decode cX9_drop 74 = .ok (.iaload, 1) := by decide +kernel
theorem dX9_drop_75 : decode cX9_drop 75 = .ok (.iastore, 1) := by decide +kernel
theorem dX9_drop_76 : decode cX9_drop 76 = .ok (.iinc 2 1, 3) := by decide +kernel
theorem dX9_drop_79 : decode cX9_drop 79 = .ok (.goto (-35), 3) := by decide +kernel
theorem dX9_drop_82 : decode cX9_drop 82 = .ok (.aload_n 0, 1) := by decide +kernel
theorem dX9_drop_83 : decode cX9_drop 83 = .ok (.getfield 7, 3) := by decide +kernel
theorem dX9_drop_86 : decode cX9_drop 86 = .ok (.iconst 1, 1) := by decide +kernel
theorem dX9_drop_87 : decode cX9_drop 87 = .ok (.dup2, 1) := by decide +kernel
theorem dX9_drop_88 : decode cX9_drop 88 = .ok (.iaload, 1) := by decide +kernel
theorem dX9_drop_89 : decode cX9_drop 89 = .ok (.iconst 1, 1) := by decide +kernel
theorem dX9_drop_90 : decode cX9_drop 90 = .ok (.isub, 1) := by decide +kernel
theorem dX9_drop_91 : decode cX9_drop 91 = .ok (.iastore, 1) := by decide +kernel
theorem dX9_drop_92 : decode cX9_drop 92 = .ok (.aload_n 0, 1) := by decide +kernel
theorem dX9_drop_93 : decode cX9_drop 93 = .ok (.getfield 7, 3) := by decide +kernel
theorem dX9_drop_96 : decode cX9_drop 96 = .ok (.iconst 1, 1) := by decide +kernel
theorem dX9_drop_97 : decode cX9_drop 97 = .ok (.iaload, 1) := by decide +kernel
theorem dX9_drop_98 : decode cX9_drop 98 = .ok (.ireturn, 1) := by decide +kernel
theorem dX9_wires_0 : decode cX9_wires 0 = .ok (.aload_n 0, 1) := by decide +kernel
theorem dX9_wires_1 : decode cX9_wires 1 = .ok (.iload_n 3, 1) := by decide +kernel
theorem dX9_wires_2 : decode cX9_wires 2 = .ok (.iconst 1, 1) := by decide +kernel
theorem dX9_wires_3 : decode cX9_wires 3 = .ok (.bipush 9, 2) := by decide +kernel
theorem dX9_wires_5 : decode cX9_wires 5 = .ok (.invokestatic 43, 3) := by decide +kernel
theorem dX9_wires_8 : decode cX9_wires 8 = .ok (.iload_n 1, 1) := by decide +kernel
theorem dX9_wires_9 : decode cX9_wires 9 = .ok (.iload_n 2, 1) := by decide +kernel
theorem dX9_wires_10 : decode cX9_wires 10 = .ok (.invokevirtual 245, 3) := by decide +kernel
theorem dX9_wires_13 : decode cX9_wires 13 = .ok (.ifCond .ne 5, 3) := by decide +kernel
theorem dX9_wires_16 : decode cX9_wires 16 = .ok (.iconst (-1), 1) := by decide +kernel
theorem dX9_wires_17 : decode cX9_wires 17 = .ok (.ireturn, 1) := by decide +kernel
theorem dX9_wires_18 : decode cX9_wires 18 = .ok (.aload_n 0, 1) := by decide +kernel
theorem dX9_wires_19 : decode cX9_wires 19 = .ok (.getfield 7, 3) := by decide +kernel
theorem dX9_wires_22 : decode cX9_wires 22 = .ok (.sipush 184, 3) := by decide +kernel
theorem dX9_wires_25 : decode cX9_wires 25 = .ok (.bipush 8, 2) := by decide +kernel
theorem dX9_wires_27 : decode cX9_wires 27 = .ok (.iload_n 1, 1) := by decide +kernel
theorem dX9_wires_28 : decode cX9_wires 28 = .ok (.imul, 1) := by decide +kernel
theorem dX9_wires_29 : decode cX9_wires 29 = .ok (.iadd, 1) := by decide +kernel
theorem dX9_wires_30 : decode cX9_wires 30 = .ok (.iload_n 2, 1) := by decide +kernel
theorem dX9_wires_31 : decode cX9_wires 31 = .ok (.iadd, 1) := by decide +kernel
theorem dX9_wires_32 : decode cX9_wires 32 = .ok (.iaload, 1) := by decide +kernel
theorem dX9_wires_33 : decode cX9_wires 33 = .ok (.istore 4, 2) := by decide +kernel
theorem dX9_wires_35 : decode cX9_wires 35 = .ok (.aload_n 0, 1) := by decide +kernel
theorem dX9_wires_36 : decode cX9_wires 36 = .ok (.getfield 7, 3) := by decide +kernel
theorem dX9_wires_39 : decode cX9_wires 39 = .ok (.sipush 184, 3) := by decide +kernel
theorem dX9_wires_42 : decode cX9_wires 42 = .ok (.bipush 8, 2) := by decide +kernel
theorem dX9_wires_44 : decode cX9_wires 44 = .ok (.iload_n 1, 1) := by decide +kernel
theorem dX9_wires_45 : decode cX9_wires 45 = .ok (.imul, 1) := by decide +kernel
theorem dX9_wires_46 : decode cX9_wires 46 = .ok (.iadd, 1) := by decide +kernel
theorem dX9_wires_47 : decode cX9_wires 47 = .ok (.iload_n 2, 1) := by decide +kernel
theorem dX9_wires_48 : decode cX9_wires 48 = .ok (.iadd, 1) := by decide +kernel
theorem dX9_wires_49 : decode cX9_wires 49 = .ok (.iload_n 3, 1) := by decide +kernel
theorem dX9_wires_50 : decode cX9_wires 50 = .ok (.iastore, 1) := by decide +kernel
theorem dX9_wires_51 : decode cX9_wires 51 = .ok (.iload 4, 2) := by decide +kernel
theorem dX9_wires_53 : decode cX9_wires 53 = .ok (.ireturn, 1) := by decide +kernel
theorem dX9_add_0 : decode cX9_add 0 = .ok (.aload_n 0, 1) := by decide +kernel
theorem dX9_add_1 : decode cX9_add 1 = .ok (.iconst 0, 1) := by decide +kernel
theorem dX9_add_2 : decode cX9_add 2 = .ok (.putfield 37, 3) := by decide +kernel
theorem dX9_add_5 : decode cX9_add 5 = .ok (.aload_n 0, 1) := by decide +kernel
theorem dX9_add_6 : decode cX9_add 6 = .ok (.iconst 0, 1) := by decide +kernel
theorem dX9_add_7 : decode cX9_add 7 = .ok (.putfield 40, 3) := by decide +kernel
theorem dX9_add_10 : decode cX9_add 10 = .ok (.aload_n 0, 1) := by decide +kernel
theorem dX9_add_11 : decode cX9_add 11 = .ok (.getfield 7, 3) := by decide +kernel
theorem dX9_add_14 : decode cX9_add 14 = .ok (.iconst 0, 1) := by decide +kernel
theorem dX9_add_15 : decode cX9_add 15 = .ok (.iaload, 1) := by decide +kernel
theorem dX9_add_16 : decode cX9_add 16 = .ok (.bipush 8, 2) := by decide +kernel
theorem dX9_add_18 : decode cX9_add 18 = .ok (.if_icmp .ne 9, 3) := by decide +kernel
theorem dX9_add_21 : decode cX9_add 21 = .ok (.aload_n 0, 1) := by decide +kernel
theorem dX9_add_22 : decode cX9_add 22 = .ok (.iconst 3, 1) := by decide +kernel
theorem dX9_add_23 : decode cX9_add 23 = .ok (.invokevirtual 225, 3) := by decide +kernel
theorem dX9_add_26 : decode cX9_add 26 = .ok (.ireturn, 1) := by decide +kernel
theorem dX9_add_27 : decode cX9_add 27 = .ok (.aload_n 0, 1) := by decide +kernel
theorem dX9_add_28 : decode cX9_add 28 = .ok (.iconst 0, 1) := by decide +kernel
theorem dX9_add_29 : decode cX9_add 29 = .ok (.invokevirtual 127, 3) := by decide +kernel
theorem dX9_add_32 : decode cX9_add 32 = .ok (.ifCond .le 9, 3) := by decide +kernel
theorem dX9_add_35 : decode cX9_add 35 = .ok (.aload_n 0, 1) := by decide +kernel
theorem dX9_add_36 : decode cX9_add 36 = .ok (.iconst 5, 1) := by decide +kernel
theorem dX9_add_37 : decode cX9_add 37 = .ok (.invokevirtual 225, 3) := by decide +kernel
theorem dX9_add_40 : decode cX9_add 40 = .ok (.ireturn, 1) := by decide +kernel
theorem dX9_add_41 : decode cX9_add 41 = .ok (.aload_n 0, 1) := by decide +kernel
theorem dX9_add_42 : decode cX9_add 42 = .ok (.invokevirtual 144, 3) := by decide +kernel
theorem dX9_add_45 : decode cX9_add 45 = .ok (.ifCond .eq 10, 3) := by decide +kernel
theorem dX9_add_48 : decode cX9_add 48 = .ok (.aload_n 0, 1) := by decide +kernel
theorem dX9_add_49 : decode cX9_add 49 = .ok (.bipush 6, 2) := by decide +kernel
theorem dX9_add_51 : decode cX9_add 51 = .ok (.invokevirtual 225, 3) := by decide +kernel
theorem dX9_add_54 : decode cX9_add 54 = .ok (.ireturn, 1) := by decide +kernel
theorem dX9_add_55 : decode cX9_add 55 = .ok (.aload_n 0, 1) := by decide +kernel
theorem dX9_add_56 : decode cX9_add 56 = .ok (.invokevirtual 70, 3) := by decide +kernel
theorem dX9_add_59 : decode cX9_add 59 = .ok (.aload_n 0, 1) := by decide +kernel
theorem dX9_add_60 : decode cX9_add 60 = .ok (.getfield 7, 3) := by decide +kernel
theorem dX9_add_63 : decode cX9_add 63 = .ok (.iconst 0, 1) := by decide +kernel
theorem dX9_add_64 : decode cX9_add 64 = .ok (.iaload, 1) := by decide +kernel
theorem dX9_add_65 : decode cX9_add 65 = .ok (.istore_n 1, 1) := by decide +kernel
theorem dX9_add_66 : decode cX9_add 66 = .ok (.bipush 40, 2) := by decide +kernel
theorem dX9_add_68 : decode cX9_add 68 = .ok (.iload_n 1, 1) := by decide +kernel
theorem dX9_add_69 : decode cX9_add 69 = .ok (.iadd, 1) := by decide +kernel
theorem dX9_add_70 : decode cX9_add 70 = .ok (.istore_n 2, 1) := by decide +kernel
theorem dX9_add_71 : decode cX9_add 71 = .ok (.iload_n 2, 1) := by decide +kernel
theorem dX9_add_72 : decode cX9_add 72 = .ok (.sipush 184, 3) := by decide +kernel
theorem dX9_add_75 : decode cX9_add 75 = .ok (.if_icmp .ge 16, 3) := by decide +kernel
theorem dX9_add_78 : decode cX9_add 78 = .ok (.aload_n 0, 1) := by decide +kernel
theorem dX9_add_79 : decode cX9_add 79 = .ok (.getfield 7, 3) := by decide +kernel
theorem dX9_add_82 : decode cX9_add 82 = .ok (.iload_n 2, 1) := by decide +kernel
theorem dX9_add_83 : decode cX9_add 83 = .ok (.iconst 0, 1) := by decide +kernel
theorem dX9_add_84 : decode cX9_add 84 = .ok (.iastore, 1) := by decide +kernel
theorem dX9_add_85 : decode cX9_add 85 = .ok (.iinc 2 8, 3) := by decide +kernel
theorem dX9_add_88 : decode cX9_add 88 = .ok (.goto (-17), 3) := by decide +kernel
theorem dX9_add_91 : decode cX9_add 91 = .ok (.aload_n 0, 1) := by decide +kernel
theorem dX9_add_92 : decode cX9_add 92 = .ok (.iload_n 1, 1) := by decide +kernel
theorem dX9_add_93 : decode cX9_add 93 = .ok (.bipush 32, 2) := by decide +kernel
theorem dX9_add_95 : decode cX9_add 95 = .ok (.iconst (-1), 1) := by decide +kernel
theorem dX9_add_96 : decode cX9_add 96 = .ok (.invokevirtual 63, 3) := by decide +kernel
theorem dX9_add_99 : decode cX9_add 99 = .ok (.aload_n 0, 1) := by decide +kernel
theorem dX9_add_100 : decode cX9_add 100 = .ok (.iload_n 1, 1) := by decide +kernel
theorem dX9_add_101 : decode cX9_add 101 = .ok (.sipush 128, 3) := by decide +kernel
theorem dX9_add_104 : decode cX9_add 104 = .ok (.iconst (-1), 1) := by decide +kernel
theorem dX9_add_105 : decode cX9_add 105 = .ok (.invokevirtual 63, 3) := by decide +kernel
theorem dX9_add_108 : decode cX9_add 108 = .ok (.aload_n 0, 1) := by decide +kernel
theorem dX9_add_109 : decode cX9_add 109 = .ok (.getfield 7, 3) := by decide +kernel
theorem dX9_add_112 : decode cX9_add 112 = .ok (.iconst 0, 1) := by decide +kernel
theorem dX9_add_113 : decode cX9_add 113 = .ok (.dup2, 1) := by decide +kernel
theorem dX9_add_114 : decode cX9_add 114 = .ok (.iaload, 1) := by decide +kernel
theorem dX9_add_115 : decode cX9_add 115 = .ok (.iconst 1, 1) := by decide +kernel
theorem dX9_add_116 : decode cX9_add 116 = .ok (.iadd, 1) := by decide +kernel
theorem dX9_add_117 : decode cX9_add 117 = .ok (.iastore, 1) := by decide +kernel
theorem dX9_add_118 : decode cX9_add 118 = .ok (.iload_n 1, 1) := by decide +kernel
theorem dX9_add_119 : decode cX9_add 119 = .ok (.ireturn, 1) := by decide +kernel
theorem dX9_sleep_0 : decode cX9_sleep 0 = .ok (.aload_n 0, 1) := by decide +kernel
theorem dX9_sleep_1 : decode cX9_sleep 1 = .ok (.iconst 0, 1) := by decide +kernel
theorem dX9_sleep_2 : decode cX9_sleep 2 = .ok (.putfield 37, 3) := by decide +kernel
theorem dX9_sleep_5 : decode cX9_sleep 5 = .ok (.aload_n 0, 1) := by decide +kernel
theorem dX9_sleep_6 : decode cX9_sleep 6 = .ok (.iconst 0, 1) := by decide +kernel
theorem dX9_sleep_7 : decode cX9_sleep 7 = .ok (.putfield 40, 3) := by decide +kernel
theorem dX9_sleep_10 : decode cX9_sleep 10 = .ok (.iload_n 2, 1) := by decide +kernel
theorem dX9_sleep_11 : decode cX9_sleep 11 = .ok (.iconst 0, 1) := by decide +kernel
theorem dX9_sleep_12 : decode cX9_sleep 12 = .ok (.bipush 50, 2) := by decide +kernel
theorem dX9_sleep_14 : decode cX9_sleep 14 = .ok (.invokestatic 43, 3) := by decide +kernel
theorem dX9_sleep_17 : decode cX9_sleep 17 = .ok (.ifCond .ne 9, 3) := by decide +kernel
theorem dX9_sleep_20 : decode cX9_sleep 20 = .ok (.aload_n 0, 1) := by decide +kernel
theorem dX9_sleep_21 : decode cX9_sleep 21 = .ok (.iconst 1, 1) := by decide +kernel
theorem dX9_sleep_22 : decode cX9_sleep 22 = .ok (.invokevirtual 225, 3) := by decide +kernel
theorem dX9_sleep_25 : decode cX9_sleep 25 = .ok (.ireturn, 1) := by decide +kernel
theorem dX9_sleep_26 : decode cX9_sleep 26 = .ok (.aload_n 0, 1) := by decide +kernel
theorem dX9_sleep_27 : decode cX9_sleep 27 = .ok (.iload_n 1, 1) := by decide +kernel
theorem dX9_sleep_28 : decode cX9_sleep 28 = .ok (.invokevirtual 239, 3) := by decide +kernel
theorem dX9_sleep_31 : decode cX9_sleep 31 = .ok (.ifCond .ne 9, 3) := by decide +kernel
theorem dX9_sleep_34 : decode cX9_sleep 34 = .ok (.aload_n 0, 1) := by decide +kernel
theorem dX9_sleep_35 : decode cX9_sleep 35 = .ok (.iconst 2, 1) := by decide +kernel
theorem dX9_sleep_36 : decode cX9_sleep 36 = .ok (.invokevirtual 225, 3) := by decide +kernel
theorem dX9_sleep_39 : decode cX9_sleep 39 = .ok (.ireturn, 1) := by decide +kernel
theorem dX9_sleep_40 : decode cX9_sleep 40 = .ok (.aload_n 0, 1) := by decide +kernel
theorem dX9_sleep_41 : decode cX9_sleep 41 = .ok (.iload_n 1, 1) := by decide +kernel
theorem dX9_sleep_42 : decode cX9_sleep 42 = .ok (.bipush 88, 2) := by decide +kernel
theorem dX9_sleep_44 : decode cX9_sleep 44 = .ok (.invokevirtual 47, 3) := by decide +kernel
theorem dX9_sleep_47 : decode cX9_sleep 47 = .ok (.istore_n 3, 1) := by decide +kernel
theorem dX9_sleep_48 : decode cX9_sleep 48 = .ok (.aload_n 0, 1) := by decide +kernel
theorem dX9_sleep_49 : decode cX9_sleep 49 = .ok (.iload_n 1, 1) := by decide +kernel
theorem dX9_sleep_50 : decode cX9_sleep 50 = .ok (.bipush 88, 2) := by decide +kernel
theorem dX9_sleep_52 : decode cX9_sleep 52 = .ok (.iload_n 2, 1) := by decide +kernel
theorem dX9_sleep_53 : decode cX9_sleep 53 = .ok (.invokevirtual 63, 3) := by decide +kernel
theorem dX9_sleep_56 : decode cX9_sleep 56 = .ok (.iload_n 3, 1) := by decide +kernel
theorem dX9_sleep_57 : decode cX9_sleep 57 = .ok (.ireturn, 1) := by decide +kernel
theorem dX9_cut_0 : decode cX9_cut 0 = .ok (.aload_n 0, 1) := by decide +kernel
theorem dX9_cut_1 : decode cX9_cut 1 = .ok (.iconst 0, 1) := by decide +kernel
theorem dX9_cut_2 : decode cX9_cut 2 = .ok (.putfield 37, 3) := by decide +kernel
theorem dX9_cut_5 : decode cX9_cut 5 = .ok (.aload_n 0, 1) := by decide +kernel
theorem dX9_cut_6 : decode cX9_cut 6 = .ok (.iconst 0, 1) := by decide +kernel
theorem dX9_cut_7 : decode cX9_cut 7 = .ok (.putfield 40, 3) := by decide +kernel
theorem dX9_cut_10 : decode cX9_cut 10 = .ok (.aload_n 0, 1) := by decide +kernel
theorem dX9_cut_11 : decode cX9_cut 11 = .ok (.iload_n 1, 1) := by decide +kernel
theorem dX9_cut_12 : decode cX9_cut 12 = .ok (.invokevirtual 239, 3) := by decide +kernel
theorem dX9_cut_15 : decode cX9_cut 15 = .ok (.ifCond .ne 9, 3) := by decide +kernel
theorem dX9_cut_18 : decode cX9_cut 18 = .ok (.aload_n 0, 1) := by decide +kernel
theorem dX9_cut_19 : decode cX9_cut 19 = .ok (.iconst 2, 1) := by decide +kernel
theorem dX9_cut_20 : decode cX9_cut 20 = .ok (.invokevirtual 225, 3) := by decide +kernel
theorem dX9_cut_23 : decode cX9_cut 23 = .ok (.ireturn, 1) := by decide +kernel
theorem dX9_cut_24 : decode cX9_cut 24 = .ok (.aload_n 0, 1) := by decide +kernel
theorem dX9_cut_25 : decode cX9_cut 25 = .ok (.getfield 7, 3) := by decide +kernel
theorem dX9_cut_28 : decode cX9_cut 28 = .ok (.iconst 5, 1) := by decide +kernel
theorem dX9_cut_29 : decode cX9_cut 29 = .ok (.iaload, 1) := by decide +kernel
theorem dX9_cut_30 : decode cX9_cut 30 = .ok (.iconst (-1), 1) := by decide +kernel
theorem dX9_cut_31 : decode cX9_cut 31 = .ok (.if_icmp .ne 10, 3) := by decide +kernel
theorem dX9_cut_34 : decode cX9_cut 34 = .ok (.aload_n 0, 1) := by decide +kernel
theorem dX9_cut_35 : decode cX9_cut 35 = .ok (.bipush 7, 2) := by decide +kernel
theorem dX9_cut_37 : decode cX9_cut 37 = .ok (.invokevirtual 225, 3) := by decide +kernel
theorem dX9_cut_40 : decode cX9_cut 40 = .ok (.ireturn, 1) := by decide +kernel
theorem dX9_cut_41 : decode cX9_cut 41 = .ok (.aload_n 0, 1) := by decide +kernel
theorem dX9_cut_42 : decode cX9_cut 42 = .ok (.iload_n 1, 1) := by decide +kernel
theorem dX9_cut_43 : decode cX9_cut 43 = .ok (.invokevirtual 274, 3) := by decide +kernel
theorem dX9_cut_46 : decode cX9_cut 46 = .ok (.aload_n 0, 1) := by decide +kernel
theorem dX9_cut_47 : decode cX9_cut 47 = .ok (.getfield 7, 3) := by decide +kernel
theorem dX9_cut_50 : decode cX9_cut 50 = .ok (.bipush 33, 2) := by decide +kernel
theorem dX9_cut_52 : decode cX9_cut 52 = .ok (.iaload, 1) := by decide +kernel
theorem dX9_cut_53 : decode cX9_cut 53 = .ok (.ireturn, 1) := by decide +kernel
theorem dX9_tick_0 : decode cX9_tick 0 = .ok (.aload_n 0, 1) := by decide +kernel
theorem dX9_tick_1 : decode cX9_tick 1 = .ok (.iconst 0, 1) := by decide +kernel
theorem dX9_tick_2 : decode cX9_tick 2 = .ok (.putfield 37, 3) := by decide +kernel
theorem dX9_tick_5 : decode cX9_tick 5 = .ok (.aload_n 0, 1) := by decide +kernel
theorem dX9_tick_6 : decode cX9_tick 6 = .ok (.iconst 0, 1) := by decide +kernel
theorem dX9_tick_7 : decode cX9_tick 7 = .ok (.putfield 40, 3) := by decide +kernel
theorem dX9_tick_10 : decode cX9_tick 10 = .ok (.iload_n 1, 1) := by decide +kernel
theorem dX9_tick_11 : decode cX9_tick 11 = .ok (.iconst 1, 1) := by decide +kernel
theorem dX9_tick_12 : decode cX9_tick 12 = .ok (.sipush 300, 3) := by decide +kernel
theorem dX9_tick_15 : decode cX9_tick 15 = .ok (.invokestatic 43, 3) := by decide +kernel
theorem dX9_tick_18 : decode cX9_tick 18 = .ok (.ifCond .ne 9, 3) := by decide +kernel
theorem dX9_tick_21 : decode cX9_tick 21 = .ok (.aload_n 0, 1) := by decide +kernel
theorem dX9_tick_22 : decode cX9_tick 22 = .ok (.iconst 1, 1) := by decide +kernel
theorem dX9_tick_23 : decode cX9_tick 23 = .ok (.invokevirtual 225, 3) := by decide +kernel
theorem dX9_tick_26 : decode cX9_tick 26 = .ok (.ireturn, 1) := by decide +kernel
theorem dX9_tick_27 : decode cX9_tick 27 = .ok (.iconst 0, 1) := by decide +kernel
theorem dX9_tick_28 : decode cX9_tick 28 = .ok (.istore_n 2, 1) := by decide +kernel
theorem dX9_tick_29 : decode cX9_tick 29 = .ok (.iload_n 2, 1) := by decide +kernel
theorem dX9_tick_30 : decode cX9_tick 30 = .ok (.iload_n 1, 1) := by decide +kernel
theorem dX9_tick_31 : decode cX9_tick 31 = .ok (.if_icmp .ge 13, 3) := by decide +kernel
theorem dX9_tick_34 : decode cX9_tick 34 = .ok (.aload_n 0, 1) := by decide +kernel
theorem dX9_tick_35 : decode cX9_tick 35 = .ok (.invokevirtual 277, 3) := by decide +kernel
theorem dX9_tick_38 : decode cX9_tick 38 = .ok (.iinc 2 1, 3) := by decide +kernel
theorem dX9_tick_41 : decode cX9_tick 41 = .ok (.goto (-12), 3) := by decide +kernel
theorem dX9_tick_44 : decode cX9_tick 44 = .ok (.aload_n 0, 1) := by decide +kernel
theorem dX9_tick_45 : decode cX9_tick 45 = .ok (.getfield 7, 3) := by decide +kernel
theorem dX9_tick_48 : decode cX9_tick 48 = .ok (.iconst 4, 1) := by decide +kernel
theorem dX9_tick_49 : decode cX9_tick 49 = .ok (.iaload, 1) := by decide +kernel
theorem dX9_tick_50 : decode cX9_tick 50 = .ok (.ireturn, 1) := by decide +kernel
theorem dX9_mark_0 : decode cX9_mark 0 = .ok (.aload_n 0, 1) := by decide +kernel
theorem dX9_mark_1 : decode cX9_mark 1 = .ok (.iconst 0, 1) := by decide +kernel
theorem dX9_mark_2 : decode cX9_mark 2 = .ok (.putfield 37, 3) := by decide +kernel
theorem dX9_mark_5 : decode cX9_mark 5 = .ok (.aload_n 0, 1) := by decide +kernel
theorem dX9_mark_6 : decode cX9_mark 6 = .ok (.iconst 0, 1) := by decide +kernel
theorem dX9_mark_7 : decode cX9_mark 7 = .ok (.putfield 40, 3) := by decide +kernel
theorem dX9_mark_10 : decode cX9_mark 10 = .ok (.aload_n 0, 1) := by decide +kernel
theorem dX9_mark_11 : decode cX9_mark 11 = .ok (.getfield 236, 3) := by decide +kernel
theorem dX9_mark_14 : decode cX9_mark 14 = .ok (.iconst 3, 1) := by decide +kernel
theorem dX9_mark_15 : decode cX9_mark 15 = .ok (.if_icmp .ne 9, 3) := by decide +kernel
theorem dX9_mark_18 : decode cX9_mark 18 = .ok (.aload_n 0, 1) := by decide +kernel
theorem dX9_mark_19 : decode cX9_mark 19 = .ok (.iconst 3, 1) := by decide +kernel
theorem dX9_mark_20 : decode cX9_mark 20 = .ok (.invokevirtual 225, 3) := by decide +kernel
theorem dX9_mark_23 : decode cX9_mark 23 = .ok (.ireturn, 1) := by decide +kernel
theorem dX9_mark_24 : decode cX9_mark 24 = .ok (.iconst 0, 1) := by decide +kernel
theorem dX9_mark_25 : decode cX9_mark 25 = .ok (.istore_n 1, 1) := by decide +kernel
theorem dX9_mark_26 : decode cX9_mark 26 = .ok (.iload_n 1, 1) := by decide +kernel
theorem dX9_mark_27 : decode cX9_mark 27 = .ok (.sipush 8296, 3) := by decide +kernel
theorem dX9_mark_30 : decode cX9_mark 30 = .ok (.if_icmp .ge 30, 3) := by decide +kernel
theorem dX9_mark_33 : decode cX9_mark 33 = .ok (.aload_n 0, 1) := by decide +kernel
theorem dX9_mark_34 : decode cX9_mark 34 = .ok (.getfield 16, 3) := by decide +kernel
theorem dX9_mark_37 : decode cX9_mark 37 = .ok (.sipush 8296, 3) := by decide +kernel
theorem dX9_mark_40 : decode cX9_mark 40 = .ok (.aload_n 0, 1) := by decide +kernel
theorem dX9_mark_41 : decode cX9_mark 41 = .ok (.getfield 236, 3) := by decide +kernel
theorem dX9_mark_44 : decode cX9_mark 44 = .ok (.imul, 1) := by decide +kernel
theorem dX9_mark_45 : decode cX9_mark 45 = .ok (.iload_n 1, 1) := by decide +kernel
theorem dX9_mark_46 : decode cX9_mark 46 = .ok (.iadd, 1) := by decide +kernel
theorem dX9_mark_47 : decode cX9_mark 47 = .ok (.aload_n 0, 1) := by decide +kernel
theorem dX9_mark_48 : decode cX9_mark 48 = .ok (.getfield 7, 3) := by decide +kernel
theorem dX9_mark_51 : decode cX9_mark 51 = .ok (.iload_n 1, 1) := by decide +kernel
theorem dX9_mark_52 : decode cX9_mark 52 = .ok (.iaload, 1) := by decide +kernel
theorem dX9_mark_53 : decode cX9_mark 53 = .ok (.iastore, 1) := by decide +kernel
theorem dX9_mark_54 : decode cX9_mark 54 = .ok (.iinc 1 1, 3) := by decide +kernel
theorem dX9_mark_57 : decode cX9_mark 57 = .ok (.goto (-31), 3) := by decide +kernel
theorem dX9_mark_60 : decode cX9_mark 60 = .ok (.aload_n 0, 1) := by decide +kernel
theorem dX9_mark_61 : decode cX9_mark 61 = .ok (.dup, 1) := by decide +kernel
theorem dX9_mark_62 : decode cX9_mark 62 = .ok (.getfield 236, 3) := by decide +kernel
theorem dX9_mark_65 : decode cX9_mark 65 = .ok (.iconst 1, 1) := by decide +kernel
theorem dX9_mark_66 : decode cX9_mark 66 = .ok (.iadd, 1) := by decide +kernel
theorem dX9_mark_67 : decode cX9_mark 67 = .ok (.putfield 236, 3) := by decide +kernel
theorem dX9_mark_70 : decode cX9_mark 70 = .ok (.aload_n 0, 1) := by decide +kernel
theorem dX9_mark_71 : decode cX9_mark 71 = .ok (.getfield 236, 3) := by decide +kernel
theorem dX9_mark_74 : decode cX9_mark 74 = .ok (.ireturn, 1) := by decide +kernel
theorem dX9_back_0 : decode cX9_back 0 = .ok (.aload_n 0, 1) := by decide +kernel
theorem dX9_back_1 : decode cX9_back 1 = .ok (.iconst 0, 1) := by decide +kernel
theorem dX9_back_2 : decode cX9_back 2 = .ok (.putfield 37, 3) := by decide +kernel
theorem dX9_back_5 : decode cX9_back 5 = .ok (.aload_n 0, 1) := by decide +kernel
theorem dX9_back_6 : decode cX9_back 6 = .ok (.iconst 0, 1) := by decide +kernel
theorem dX9_back_7 : decode cX9_back 7 = .ok (.putfield 40, 3) := by decide +kernel
theorem dX9_back_10 : decode cX9_back 10 = .ok (.aload_n 0, 1) := by decide +kernel
theorem dX9_back_11 : decode cX9_back 11 = .ok (.getfield 236, 3) := by decide +kernel
theorem dX9_back_14 : decode cX9_back 14 = .ok (.ifCond .ne 9, 3) := by decide +kernel
theorem dX9_back_17 : decode cX9_back 17 = .ok (.aload_n 0, 1) := by decide +kernel
theorem dX9_back_18 : decode cX9_back 18 = .ok (.iconst 5, 1) := by decide +kernel
theorem dX9_back_19 : decode cX9_back 19 = .ok (.invokevirtual 225, 3) := by decide +kernel
theorem dX9_back_22 : decode cX9_back 22 = .ok (.ireturn, 1) := by decide +kernel
theorem dX9_back_23 : decode cX9_back 23 = .ok (.aload_n 0, 1) := by decide +kernel
theorem dX9_back_24 : decode cX9_back 24 = .ok (.dup, 1) := by decide +kernel
theorem dX9_back_25 : decode cX9_back 25 = .ok (.getfield 236, 3) := by decide +kernel
theorem dX9_back_28 : decode cX9_back 28 = .ok (.iconst 1, 1) := by decide +kernel
theorem dX9_back_29 : decode cX9_back 29 = .ok (.isub, 1) := by decide +kernel
theorem dX9_back_30 : decode cX9_back 30 = .ok (.putfield 236, 3) := by decide +kernel
theorem dX9_back_33 : decode cX9_back 33 = .ok (.iconst 0, 1) := by decide +kernel
theorem dX9_back_34 : decode cX9_back 34 = .ok (.istore_n 1, 1) := by decide +kernel
theorem dX9_back_35 : decode cX9_back 35 = .ok (.iload_n 1, 1) := by decide +kernel
theorem dX9_back_36 : decode cX9_back 36 = .ok (.sipush 8296, 3) := by decide +kernel
theorem dX9_back_39 : decode cX9_back 39 = .ok (.if_icmp .ge 30, 3) := by decide +kernel
theorem dX9_back_42 : decode cX9_back 42 = .ok (.aload_n 0, 1) := by decide +kernel
theorem dX9_back_43 : decode cX9_back 43 = .ok (.getfield 7, 3) := by decide +kernel
theorem dX9_back_46 : decode cX9_back 46 = .ok (.iload_n 1, 1) := by decide +kernel
theorem dX9_back_47 : decode cX9_back 47 = .ok (.aload_n 0, 1) := by decide +kernel
theorem dX9_back_48 : decode cX9_back 48 = .ok (.getfield 16, 3) := by decide +kernel
theorem dX9_back_51 : decode cX9_back 51 = .ok (.sipush 8296, 3) := by decide +kernel
theorem dX9_back_54 : decode cX9_back 54 = .ok (.aload_n 0, 1) := by decide +kernel
theorem dX9_back_55 : decode cX9_back 55 = .ok (.getfield 236, 3) := by decide +kernel
theorem dX9_back_58 : decode cX9_back 58 = .ok (.imul, 1) := by decide +kernel
theorem dX9_back_59 : decode cX9_back 59 = .ok (.iload_n 1, 1) := by decide +kernel
theorem dX9_back_60 : decode cX9_back 60 = .ok (.iadd, 1) := by decide +kernel
theorem dX9_back_61 : decode cX9_back 61 = .ok (.iaload, 1) := by decide +kernel
theorem dX9_back_62 : decode cX9_back 62 = .ok (.iastore, 1) := by decide +kernel
theorem dX9_back_63 : decode cX9_back 63 = .ok (.iinc 1 1, 3) := by decide +kernel
theorem dX9_back_66 : decode cX9_back 66 = .ok (.goto (-31), 3) := by decide +kernel
theorem dX9_back_69 : decode cX9_back 69 = .ok (.aload_n 0, 1) := by decide +kernel
theorem dX9_back_70 : decode cX9_back 70 = .ok (.getfield 236, 3) := by decide +kernel
theorem dX9_back_73 : decode cX9_back 73 = .ok (.ireturn, 1) := by decide +kernel
theorem dX9_laysAside_0 : decode cX9_laysAside 0 = .ok (.iconst 0, 1) := by decide +kernel
theorem dX9_laysAside_1 : decode cX9_laysAside 1 = .ok (.istore_n 1, 1) := by decide +kernel
theorem dX9_laysAside_2 : decode cX9_laysAside 2 = .ok (.iload_n 1, 1) := by decide +kernel
theorem dX9_laysAside_3 : decode cX9_laysAside 3 = .ok (.sipush 8296, 3) := by decide +kernel
theorem dX9_laysAside_6 : decode cX9_laysAside 6 = .ok (.if_icmp .ge 21, 3) := by decide +kernel
theorem dX9_laysAside_9 : decode cX9_laysAside 9 = .ok (.aload_n 0, 1) := by decide +kernel
theorem dX9_laysAside_10 : decode cX9_laysAside 10 = .ok (.getfield 13, 3) := by decide +kernel
theorem dX9_laysAside_13 : decode cX9_laysAside 13 = .ok (.iload_n 1, 1) := by decide +kernel
theorem dX9_laysAside_14 : decode cX9_laysAside 14 = .ok (.aload_n 0, 1) := by decide +kernel
theorem dX9_laysAside_15 : decode cX9_laysAside 15 = .ok (.getfield 7, 3) := by decide +kernel
theorem dX9_laysAside_18 : decode cX9_laysAside 18 = .ok (.iload_n 1, 1) := by decide +kernel
theorem dX9_laysAside_19 : decode cX9_laysAside 19 = .ok (.iaload, 1) := by decide +kernel
theorem dX9_laysAside_20 : decode cX9_laysAside 20 = .ok (.iastore, 1) := by decide +kernel
theorem dX9_laysAside_21 : decode cX9_laysAside 21 = .ok (.iinc 1 1, 3) := by decide +kernel
theorem dX9_laysAside_24 : decode cX9_laysAside 24 = .ok (.goto (-22), 3) := by decide +kernel
theorem dX9_laysAside_27 : decode cX9_laysAside 27 = .ok (.return_, 1) := by decide +kernel
theorem dX9_comesBack_0 : decode cX9_comesBack 0 = .ok (.iconst 0, 1) := by decide +kernel
theorem dX9_comesBack_1 : decode cX9_comesBack 1 = .ok (.istore_n 1, 1) := by decide +kernel
theorem dX9_comesBack_2 : decode cX9_comesBack 2 = .ok (.iload_n 1, 1) := by decide +kernel
theorem dX9_comesBack_3 : decode cX9_comesBack 3 = .ok (.sipush 8296, 3) := by decide +kernel
theorem dX9_comesBack_6 : decode cX9_comesBack 6 = .ok (.if_icmp .ge 21, 3) := by decide +kernel
theorem dX9_comesBack_9 : decode cX9_comesBack 9 = .ok (.aload_n 0, 1) := by decide +kernel
theorem dX9_comesBack_10 : decode cX9_comesBack 10 = .ok (.getfield 7, 3) := by decide +kernel
theorem dX9_comesBack_13 : decode cX9_comesBack 13 = .ok (.iload_n 1, 1) := by decide +kernel
theorem dX9_comesBack_14 : decode cX9_comesBack 14 = .ok (.aload_n 0, 1) := by decide +kernel
theorem dX9_comesBack_15 : decode cX9_comesBack 15 = .ok (.getfield 13, 3) := by decide +kernel
theorem dX9_comesBack_18 : decode cX9_comesBack 18 = .ok (.iload_n 1, 1) := by decide +kernel
theorem dX9_comesBack_19 : decode cX9_comesBack 19 = .ok (.iaload, 1) := by decide +kernel
theorem dX9_comesBack_20 : decode cX9_comesBack 20 = .ok (.iastore, 1) := by decide +kernel
theorem dX9_comesBack_21 : decode cX9_comesBack 21 = .ok (.iinc 1 1, 3) := by decide +kernel
theorem dX9_comesBack_24 : decode cX9_comesBack 24 = .ok (.goto (-22), 3) := by decide +kernel
theorem dX9_comesBack_27 : decode cX9_comesBack 27 = .ok (.return_, 1) := by decide +kernel
theorem dX9_till_0 : decode cX9_till 0 = .ok (.iconst 0, 1) := by decide +kernel
theorem dX9_till_1 : decode cX9_till 1 = .ok (.istore_n 2, 1) := by decide +kernel
theorem dX9_till_2 : decode cX9_till 2 = .ok (.aload_n 0, 1) := by decide +kernel
theorem dX9_till_3 : decode cX9_till 3 = .ok (.getfield 7, 3) := by decide +kernel
theorem dX9_till_6 : decode cX9_till 6 = .ok (.iload_n 1, 1) := by decide +kernel
theorem dX9_till_7 : decode cX9_till 7 = .ok (.iaload, 1) := by decide +kernel
theorem dX9_till_8 : decode cX9_till 8 = .ok (.iconst (-1), 1) := by decide +kernel
theorem dX9_till_9 : decode cX9_till 9 = .ok (.if_icmp .ne 13, 3) := by decide +kernel
theorem dX9_till_12 : decode cX9_till 12 = .ok (.aload_n 0, 1) := by decide +kernel
theorem dX9_till_13 : decode cX9_till 13 = .ok (.invokevirtual 277, 3) := by decide +kernel
theorem dX9_till_16 : decode cX9_till 16 = .ok (.iinc 2 1, 3) := by decide +kernel
theorem dX9_till_19 : decode cX9_till 19 = .ok (.goto (-17), 3) := by decide +kernel
theorem dX9_till_22 : decode cX9_till 22 = .ok (.iload_n 2, 1) := by decide +kernel
theorem dX9_till_23 : decode cX9_till 23 = .ok (.ireturn, 1) := by decide +kernel
theorem dX9_triesTill_0 : decode cX9_triesTill 0 = .ok (.aload_n 0, 1) := by decide +kernel
theorem dX9_triesTill_1 : decode cX9_triesTill 1 = .ok (.invokevirtual 280, 3) := by decide +kernel
theorem dX9_triesTill_4 : decode cX9_triesTill 4 = .ok (.aload_n 0, 1) := by decide +kernel
theorem dX9_triesTill_5 : decode cX9_triesTill 5 = .ok (.iload_n 1, 1) := by decide +kernel
theorem dX9_triesTill_6 : decode cX9_triesTill 6 = .ok (.invokevirtual 283, 3) := by decide +kernel
theorem dX9_triesTill_9 : decode cX9_triesTill 9 = .ok (.istore_n 2, 1) := by decide +kernel
theorem dX9_triesTill_10 : decode cX9_triesTill 10 = .ok (.aload_n 0, 1) := by decide +kernel
theorem dX9_triesTill_11 : decode cX9_triesTill 11 = .ok (.invokevirtual 286, 3) := by decide +kernel
theorem dX9_triesTill_14 : decode cX9_triesTill 14 = .ok (.iload_n 2, 1) := by decide +kernel
theorem dX9_triesTill_15 : decode cX9_triesTill 15 = .ok (.ireturn, 1) := by decide +kernel
theorem dX9_ends_0 : decode cX9_ends 0 = .ok (.aload_n 0, 1) := by decide +kernel
theorem dX9_ends_1 : decode cX9_ends 1 = .ok (.iconst 0, 1) := by decide +kernel
theorem dX9_ends_2 : decode cX9_ends 2 = .ok (.putfield 37, 3) := by decide +kernel
theorem dX9_ends_5 : decode cX9_ends 5 = .ok (.aload_n 0, 1) := by decide +kernel
theorem dX9_ends_6 : decode cX9_ends 6 = .ok (.iconst 0, 1) := by decide +kernel
theorem dX9_ends_7 : decode cX9_ends 7 = .ok (.putfield 40, 3) := by decide +kernel
theorem dX9_ends_10 : decode cX9_ends 10 = .ok (.aload_n 0, 1) := by decide +kernel
theorem dX9_ends_11 : decode cX9_ends 11 = .ok (.getfield 7, 3) := by decide +kernel
theorem dX9_ends_14 : decode cX9_ends 14 = .ok (.iconst 5, 1) := by decide +kernel
theorem dX9_ends_15 : decode cX9_ends 15 = .ok (.iaload, 1) := by decide +kernel
theorem dX9_ends_16 : decode cX9_ends 16 = .ok (.iconst (-1), 1) := by decide +kernel
theorem dX9_ends_17 : decode cX9_ends 17 = .ok (.if_icmp .ne 12, 3) := by decide +kernel
theorem dX9_ends_20 : decode cX9_ends 20 = .ok (.aload_n 0, 1) := by decide +kernel
theorem dX9_ends_21 : decode cX9_ends 21 = .ok (.bipush 7, 2) := by decide +kernel
theorem dX9_ends_23 : decode cX9_ends 23 = .ok (.invokevirtual 225, 3) := by decide +kernel
theorem dX9_ends_26 : decode cX9_ends 26 = .ok (.goto 9, 3) := by decide +kernel
theorem dX9_ends_29 : decode cX9_ends 29 = .ok (.aload_n 0, 1) := by decide +kernel
theorem dX9_ends_30 : decode cX9_ends 30 = .ok (.bipush 6, 2) := by decide +kernel
theorem dX9_ends_32 : decode cX9_ends 32 = .ok (.invokevirtual 289, 3) := by decide +kernel
theorem dX9_ends_35 : decode cX9_ends 35 = .ok (.ireturn, 1) := by decide +kernel
theorem dX9_tells_0 : decode cX9_tells 0 = .ok (.aload_n 0, 1) := by decide +kernel
theorem dX9_tells_1 : decode cX9_tells 1 = .ok (.iconst 1, 1) := by decide +kernel
theorem dX9_tells_2 : decode cX9_tells 2 = .ok (.iload_n 1, 1) := by decide +kernel
theorem dX9_tells_3 : decode cX9_tells 3 = .ok (.invokevirtual 249, 3) := by decide +kernel
theorem dX9_tells_6 : decode cX9_tells 6 = .ok (.ifCond .ne 5, 3) := by decide +kernel
theorem dX9_tells_9 : decode cX9_tells 9 = .ok (.iconst (-1), 1) := by decide +kernel
theorem dX9_tells_10 : decode cX9_tells 10 = .ok (.ireturn, 1) := by decide +kernel
theorem dX9_tells_11 : decode cX9_tells 11 = .ok (.aload_n 0, 1) := by decide +kernel
theorem dX9_tells_12 : decode cX9_tells 12 = .ok (.getfield 7, 3) := by decide +kernel
theorem dX9_tells_15 : decode cX9_tells 15 = .ok (.iconst 5, 1) := by decide +kernel
theorem dX9_tells_16 : decode cX9_tells 16 = .ok (.iaload, 1) := by decide +kernel
theorem dX9_tells_17 : decode cX9_tells 17 = .ok (.iconst (-1), 1) := by decide +kernel
theorem dX9_tells_18 : decode cX9_tells 18 = .ok (.if_icmp .ne 12, 3) := by decide +kernel
theorem dX9_tells_21 : decode cX9_tells 21 = .ok (.aload_n 0, 1) := by decide +kernel
theorem dX9_tells_22 : decode cX9_tells 22 = .ok (.bipush 7, 2) := by decide +kernel
theorem dX9_tells_24 : decode cX9_tells 24 = .ok (.invokevirtual 225, 3) := by decide +kernel
theorem dX9_tells_27 : decode cX9_tells 27 = .ok (.goto 11, 3) := by decide +kernel
theorem dX9_tells_30 : decode cX9_tells 30 = .ok (.aload_n 0, 1) := by decide +kernel
theorem dX9_tells_31 : decode cX9_tells 31 = .ok (.bipush 8, 2) := by decide +kernel
theorem dX9_tells_33 : decode cX9_tells 33 = .ok (.iload_n 1, 1) := by decide +kernel
theorem dX9_tells_34 : decode cX9_tells 34 = .ok (.iadd, 1) := by decide +kernel
theorem dX9_tells_35 : decode cX9_tells 35 = .ok (.invokevirtual 289, 3) := by decide +kernel
theorem dX9_tells_38 : decode cX9_tells 38 = .ok (.ireturn, 1) := by decide +kernel
theorem dX9_whole_0 : decode cX9_whole 0 = .ok (.aload_n 0, 1) := by decide +kernel
theorem dX9_whole_1 : decode cX9_whole 1 = .ok (.iconst 0, 1) := by decide +kernel
theorem dX9_whole_2 : decode cX9_whole 2 = .ok (.putfield 37, 3) := by decide +kernel
theorem dX9_whole_5 : decode cX9_whole 5 = .ok (.aload_n 0, 1) := by decide +kernel
theorem dX9_whole_6 : decode cX9_whole 6 = .ok (.iconst 0, 1) := by decide +kernel
theorem dX9_whole_7 : decode cX9_whole 7 = .ok (.putfield 40, 3) := by decide +kernel
theorem dX9_whole_10 : decode cX9_whole 10 = .ok (.aload_n 0, 1) := by decide +kernel
theorem dX9_whole_11 : decode cX9_whole 11 = .ok (.iload_n 1, 1) := by decide +kernel
theorem dX9_whole_12 : decode cX9_whole 12 = .ok (.invokevirtual 239, 3) := by decide +kernel
theorem dX9_whole_15 : decode cX9_whole 15 = .ok (.ifCond .ne 9, 3) := by decide +kernel
theorem dX9_whole_18 : decode cX9_whole 18 = .ok (.aload_n 0, 1) := by decide +kernel
theorem dX9_whole_19 : decode cX9_whole 19 = .ok (.iconst 2, 1) := by decide +kernel
theorem dX9_whole_20 : decode cX9_whole 20 = .ok (.invokevirtual 225, 3) := by decide +kernel
theorem dX9_whole_23 : decode cX9_whole 23 = .ok (.ireturn, 1) := by decide +kernel
theorem dX9_whole_24 : decode cX9_whole 24 = .ok (.aload_n 0, 1) := by decide +kernel
theorem dX9_whole_25 : decode cX9_whole 25 = .ok (.getfield 7, 3) := by decide +kernel
theorem dX9_whole_28 : decode cX9_whole 28 = .ok (.iconst 5, 1) := by decide +kernel
theorem dX9_whole_29 : decode cX9_whole 29 = .ok (.iaload, 1) := by decide +kernel
theorem dX9_whole_30 : decode cX9_whole 30 = .ok (.iconst (-1), 1) := by decide +kernel
theorem dX9_whole_31 : decode cX9_whole 31 = .ok (.if_icmp .ne 10, 3) := by decide +kernel
theorem dX9_whole_34 : decode cX9_whole 34 = .ok (.aload_n 0, 1) := by decide +kernel
theorem dX9_whole_35 : decode cX9_whole 35 = .ok (.bipush 7, 2) := by decide +kernel
theorem dX9_whole_37 : decode cX9_whole 37 = .ok (.invokevirtual 225, 3) := by decide +kernel
theorem dX9_whole_40 : decode cX9_whole 40 = .ok (.ireturn, 1) := by decide +kernel
theorem dX9_whole_41 : decode cX9_whole 41 = .ok (.aload_n 0, 1) := by decide +kernel
theorem dX9_whole_42 : decode cX9_whole 42 = .ok (.invokevirtual 280, 3) := by decide +kernel
theorem dX9_whole_45 : decode cX9_whole 45 = .ok (.aload_n 0, 1) := by decide +kernel
theorem dX9_whole_46 : decode cX9_whole 46 = .ok (.iload_n 1, 1) := by decide +kernel
theorem dX9_whole_47 : decode cX9_whole 47 = .ok (.invokevirtual 274, 3) := by decide +kernel
theorem dX9_whole_50 : decode cX9_whole 50 = .ok (.iconst 0, 1) := by decide +kernel
theorem dX9_whole_51 : decode cX9_whole 51 = .ok (.istore_n 2, 1) := by decide +kernel
theorem dX9_whole_52 : decode cX9_whole 52 = .ok (.iload_n 2, 1) := by decide +kernel
theorem dX9_whole_53 : decode cX9_whole 53 = .ok (.sipush 2000, 3) := by decide +kernel
theorem dX9_whole_56 : decode cX9_whole 56 = .ok (.if_icmp .gt 24, 3) := by decide +kernel
theorem dX9_whole_59 : decode cX9_whole 59 = .ok (.aload_n 0, 1) := by decide +kernel
theorem dX9_whole_60 : decode cX9_whole 60 = .ok (.getfield 7, 3) := by decide +kernel
theorem dX9_whole_63 : decode cX9_whole 63 = .ok (.bipush 34, 2) := by decide +kernel
theorem dX9_whole_65 : decode cX9_whole 65 = .ok (.iaload, 1) := by decide +kernel
theorem dX9_whole_66 : decode cX9_whole 66 = .ok (.iconst (-1), 1) := by decide +kernel
theorem dX9_whole_67 : decode cX9_whole 67 = .ok (.if_icmp .ne 13, 3) := by decide +kernel
theorem dX9_whole_70 : decode cX9_whole 70 = .ok (.aload_n 0, 1) := by decide +kernel
theorem dX9_whole_71 : decode cX9_whole 71 = .ok (.invokevirtual 277, 3) := by decide +kernel
theorem dX9_whole_74 : decode cX9_whole 74 = .ok (.iinc 2 1, 3) := by decide +kernel
theorem dX9_whole_77 : decode cX9_whole 77 = .ok (.goto (-25), 3) := by decide +kernel
theorem dX9_whole_80 : decode cX9_whole 80 = .ok (.aload_n 0, 1) := by decide +kernel
theorem dX9_whole_81 : decode cX9_whole 81 = .ok (.invokevirtual 286, 3) := by decide +kernel
theorem dX9_whole_84 : decode cX9_whole 84 = .ok (.iload_n 2, 1) := by decide +kernel
theorem dX9_whole_85 : decode cX9_whole 85 = .ok (.sipush 2000, 3) := by decide +kernel
theorem dX9_whole_88 : decode cX9_whole 88 = .ok (.if_icmp .le 12, 3) := by decide +kernel
theorem dX9_whole_91 : decode cX9_whole 91 = .ok (.aload_n 0, 1) := by decide +kernel
theorem dX9_whole_92 : decode cX9_whole 92 = .ok (.bipush 8, 2) := by decide +kernel
theorem dX9_whole_94 : decode cX9_whole 94 = .ok (.invokevirtual 225, 3) := by decide +kernel
theorem dX9_whole_97 : decode cX9_whole 97 = .ok (.goto 4, 3) := by decide +kernel
theorem dX9_whole_100 : decode cX9_whole 100 = .ok (.iload_n 2, 1) := by decide +kernel
theorem dX9_whole_101 : decode cX9_whole 101 = .ok (.ireturn, 1) := by decide +kernel
theorem dX9_goneBy_0 : decode cX9_goneBy 0 = .ok (.aload_n 0, 1) := by decide +kernel
theorem dX9_goneBy_1 : decode cX9_goneBy 1 = .ok (.iload_n 1, 1) := by decide +kernel
theorem dX9_goneBy_2 : decode cX9_goneBy 2 = .ok (.invokevirtual 271, 3) := by decide +kernel
theorem dX9_goneBy_5 : decode cX9_goneBy 5 = .ok (.aload_n 0, 1) := by decide +kernel
theorem dX9_goneBy_6 : decode cX9_goneBy 6 = .ok (.getfield 7, 3) := by decide +kernel
theorem dX9_goneBy_9 : decode cX9_goneBy 9 = .ok (.iconst 4, 1) := by decide +kernel
theorem dX9_goneBy_10 : decode cX9_goneBy 10 = .ok (.iaload, 1) := by decide +kernel
theorem dX9_goneBy_11 : decode cX9_goneBy 11 = .ok (.istore 4, 2) := by decide +kernel
theorem dX9_goneBy_13 : decode cX9_goneBy 13 = .ok (.aload_n 0, 1) := by decide +kernel
theorem dX9_goneBy_14 : decode cX9_goneBy 14 = .ok (.bipush 8, 2) := by decide +kernel
theorem dX9_goneBy_16 : decode cX9_goneBy 16 = .ok (.iload_n 2, 1) := by decide +kernel
theorem dX9_goneBy_17 : decode cX9_goneBy 17 = .ok (.iadd, 1) := by decide +kernel
theorem dX9_goneBy_18 : decode cX9_goneBy 18 = .ok (.invokevirtual 283, 3) := by decide +kernel
theorem dX9_goneBy_21 : decode cX9_goneBy 21 = .ok (.istore 5, 2) := by decide +kernel
theorem dX9_goneBy_23 : decode cX9_goneBy 23 = .ok (.iload_n 3, 1) := by decide +kernel
theorem dX9_goneBy_24 : decode cX9_goneBy 24 = .ok (.ifCond .ne 16, 3) := by decide +kernel
theorem dX9_goneBy_27 : decode cX9_goneBy 27 = .ok (.aload_n 0, 1) := by decide +kernel
theorem dX9_goneBy_28 : decode cX9_goneBy 28 = .ok (.getfield 7, 3) := by decide +kernel
theorem dX9_goneBy_31 : decode cX9_goneBy 31 = .ok (.bipush 6, 2) := by decide +kernel
theorem dX9_goneBy_33 : decode cX9_goneBy 33 = .ok (.iaload, 1) := by decide +kernel
theorem dX9_goneBy_34 : decode cX9_goneBy 34 = .ok (.iload 4, 2) := by decide +kernel
theorem dX9_goneBy_36 : decode cX9_goneBy 36 = .ok (.isub, 1) := by decide +kernel
theorem dX9_goneBy_37 : decode cX9_goneBy 37 = .ok (.goto 45, 3) := by decide +kernel
theorem dX9_goneBy_40 : decode cX9_goneBy 40 = .ok (.iload_n 3, 1) := by decide +kernel
theorem dX9_goneBy_41 : decode cX9_goneBy 41 = .ok (.iconst 1, 1) := by decide +kernel
theorem dX9_goneBy_42 : decode cX9_goneBy 42 = .ok (.if_icmp .ne 18, 3) := by decide +kernel
theorem dX9_goneBy_45 : decode cX9_goneBy 45 = .ok (.aload_n 0, 1) := by decide +kernel
theorem dX9_goneBy_46 : decode cX9_goneBy 46 = .ok (.getfield 7, 3) := by decide +kernel
theorem dX9_goneBy_49 : decode cX9_goneBy 49 = .ok (.bipush 8, 2) := by decide +kernel
theorem dX9_goneBy_51 : decode cX9_goneBy 51 = .ok (.iload_n 2, 1) := by decide +kernel
theorem dX9_goneBy_52 : decode cX9_goneBy 52 = .ok (.iadd, 1) := by decide +kernel
theorem dX9_goneBy_53 : decode cX9_goneBy 53 = .ok (.iaload, 1) := by decide +kernel
theorem dX9_goneBy_54 : decode cX9_goneBy 54 = .ok (.iload 4, 2) := by decide +kernel
theorem dX9_goneBy_56 : decode cX9_goneBy 56 = .ok (.isub, 1) := by decide +kernel
theorem dX9_goneBy_57 : decode cX9_goneBy 57 = .ok (.goto 25, 3) := by decide +kernel
theorem dX9_goneBy_60 : decode cX9_goneBy 60 = .ok (.iload_n 3, 1) := by decide +kernel
theorem dX9_goneBy_61 : decode cX9_goneBy 61 = .ok (.iconst 2, 1) := by decide +kernel
theorem dX9_goneBy_62 : decode cX9_goneBy 62 = .ok (.if_icmp .ne 11, 3) := by decide +kernel
theorem dX9_goneBy_65 : decode cX9_goneBy 65 = .ok (.aload_n 0, 1) := by decide +kernel
theorem dX9_goneBy_66 : decode cX9_goneBy 66 = .ok (.iload_n 2, 1) := by decide +kernel
theorem dX9_goneBy_67 : decode cX9_goneBy 67 = .ok (.invokevirtual 256, 3) := by decide +kernel
theorem dX9_goneBy_70 : decode cX9_goneBy 70 = .ok (.goto 12, 3) := by decide +kernel
theorem dX9_goneBy_73 : decode cX9_goneBy 73 = .ok (.aload_n 0, 1) := by decide +kernel
theorem dX9_goneBy_74 : decode cX9_goneBy 74 = .ok (.getfield 7, 3) := by decide +kernel
theorem dX9_goneBy_77 : decode cX9_goneBy 77 = .ok (.bipush 12, 2) := by decide +kernel
theorem dX9_goneBy_79 : decode cX9_goneBy 79 = .ok (.iload_n 2, 1) := by decide +kernel
theorem dX9_goneBy_80 : decode cX9_goneBy 80 = .ok (.iadd, 1) := by decide +kernel
theorem dX9_goneBy_81 : decode cX9_goneBy 81 = .ok (.iaload, 1) := by decide +kernel
theorem dX9_goneBy_82 : decode cX9_goneBy 82 = .ok (.ireturn, 1) := by decide +kernel
theorem dX9_would_0 : decode cX9_would 0 = .ok (.aload_n 0, 1) := by decide +kernel
theorem dX9_would_1 : decode cX9_would 1 = .ok (.iload_n 1, 1) := by decide +kernel
theorem dX9_would_2 : decode cX9_would 2 = .ok (.iconst 1, 1) := by decide +kernel
theorem dX9_would_3 : decode cX9_would 3 = .ok (.sipush 200, 3) := by decide +kernel
theorem dX9_would_6 : decode cX9_would 6 = .ok (.invokestatic 43, 3) := by decide +kernel
theorem dX9_would_9 : decode cX9_would 9 = .ok (.ifCond .eq 16, 3) := by decide +kernel
theorem dX9_would_12 : decode cX9_would 12 = .ok (.iload_n 3, 1) := by decide +kernel
theorem dX9_would_13 : decode cX9_would 13 = .ok (.iconst 0, 1) := by decide +kernel
theorem dX9_would_14 : decode cX9_would 14 = .ok (.iconst 3, 1) := by decide +kernel
theorem dX9_would_15 : decode cX9_would 15 = .ok (.invokestatic 43, 3) := by decide +kernel
theorem dX9_would_18 : decode cX9_would 18 = .ok (.ifCond .eq 7, 3) := by decide +kernel
theorem dX9_would_21 : decode cX9_would 21 = .ok (.iconst 1, 1) := by decide +kernel
theorem dX9_would_22 : decode cX9_would 22 = .ok (.goto 4, 3) := by decide +kernel
theorem dX9_would_25 : decode cX9_would 25 = .ok (.iconst 0, 1) := by decide +kernel
theorem dX9_would_26 : decode cX9_would 26 = .ok (.iload_n 2, 1) := by decide +kernel
theorem dX9_would_27 : decode cX9_would 27 = .ok (.invokevirtual 249, 3) := by decide +kernel
theorem dX9_would_30 : decode cX9_would 30 = .ok (.ifCond .ne 5, 3) := by decide +kernel
theorem dX9_would_33 : decode cX9_would 33 = .ok (.iconst (-1), 1) := by decide +kernel
theorem dX9_would_34 : decode cX9_would 34 = .ok (.ireturn, 1) := by decide +kernel
theorem dX9_would_35 : decode cX9_would 35 = .ok (.aload_n 0, 1) := by decide +kernel
theorem dX9_would_36 : decode cX9_would 36 = .ok (.invokevirtual 144, 3) := by decide +kernel
theorem dX9_would_39 : decode cX9_would 39 = .ok (.ifCond .eq 10, 3) := by decide +kernel
theorem dX9_would_42 : decode cX9_would 42 = .ok (.aload_n 0, 1) := by decide +kernel
theorem dX9_would_43 : decode cX9_would 43 = .ok (.bipush 6, 2) := by decide +kernel
theorem dX9_would_45 : decode cX9_would 45 = .ok (.invokevirtual 225, 3) := by decide +kernel
theorem dX9_would_48 : decode cX9_would 48 = .ok (.ireturn, 1) := by decide +kernel
theorem dX9_would_49 : decode cX9_would 49 = .ok (.aload_n 0, 1) := by decide +kernel
theorem dX9_would_50 : decode cX9_would 50 = .ok (.invokevirtual 280, 3) := by decide +kernel
theorem dX9_would_53 : decode cX9_would 53 = .ok (.aload_n 0, 1) := by decide +kernel
theorem dX9_would_54 : decode cX9_would 54 = .ok (.iload_n 1, 1) := by decide +kernel
theorem dX9_would_55 : decode cX9_would 55 = .ok (.iload_n 2, 1) := by decide +kernel
theorem dX9_would_56 : decode cX9_would 56 = .ok (.iload_n 3, 1) := by decide +kernel
theorem dX9_would_57 : decode cX9_would 57 = .ok (.invokevirtual 292, 3) := by decide +kernel
theorem dX9_would_60 : decode cX9_would 60 = .ok (.istore 4, 2) := by decide +kernel
theorem dX9_would_62 : decode cX9_would 62 = .ok (.aload_n 0, 1) := by decide +kernel
theorem dX9_would_63 : decode cX9_would 63 = .ok (.invokevirtual 286, 3) := by decide +kernel
theorem dX9_would_66 : decode cX9_would 66 = .ok (.iload 4, 2) := by decide +kernel
theorem dX9_would_68 : decode cX9_would 68 = .ok (.ireturn, 1) := by decide +kernel
theorem dX9_with_0 : decode cX9_with 0 = .ok (.aload_n 0, 1) := by decide +kernel
theorem dX9_with_1 : decode cX9_with 1 = .ok (.iconst 0, 1) := by decide +kernel
theorem dX9_with_2 : decode cX9_with 2 = .ok (.putfield 37, 3) := by decide +kernel
theorem dX9_with_5 : decode cX9_with 5 = .ok (.aload_n 0, 1) := by decide +kernel
theorem dX9_with_6 : decode cX9_with 6 = .ok (.iconst 0, 1) := by decide +kernel
theorem dX9_with_7 : decode cX9_with 7 = .ok (.putfield 40, 3) := by decide +kernel
theorem dX9_with_10 : decode cX9_with 10 = .ok (.iload_n 1, 1) := by decide +kernel
theorem dX9_with_11 : decode cX9_with 11 = .ok (.iconst 1, 1) := by decide +kernel
theorem dX9_with_12 : decode cX9_with 12 = .ok (.sipush 200, 3) := by decide +kernel
theorem dX9_with_15 : decode cX9_with 15 = .ok (.invokestatic 43, 3) := by decide +kernel
theorem dX9_with_18 : decode cX9_with 18 = .ok (.ifCond .eq 14, 3) := by decide +kernel
theorem dX9_with_21 : decode cX9_with 21 = .ok (.iload 5, 2) := by decide +kernel
theorem dX9_with_23 : decode cX9_with 23 = .ok (.iconst 1, 1) := by decide +kernel
theorem dX9_with_24 : decode cX9_with 24 = .ok (.bipush 9, 2) := by decide +kernel
theorem dX9_with_26 : decode cX9_with 26 = .ok (.invokestatic 43, 3) := by decide +kernel
theorem dX9_with_29 : decode cX9_with 29 = .ok (.ifCond .ne 9, 3) := by decide +kernel
theorem dX9_with_32 : decode cX9_with 32 = .ok (.aload_n 0, 1) := by decide +kernel
theorem dX9_with_33 : decode cX9_with 33 = .ok (.iconst 1, 1) := by decide +kernel
theorem dX9_with_34 : decode cX9_with 34 = .ok (.invokevirtual 225, 3) := by decide +kernel
theorem dX9_with_37 : decode cX9_with 37 = .ok (.ireturn, 1) := by decide +kernel
theorem dX9_with_38 : decode cX9_with 38 = .ok (.iload_n 2, 1) := by decide +kernel
theorem dX9_with_39 : decode cX9_with 39 = .ok (.iconst 0, 1) := by decide +kernel
theorem dX9_with_40 : decode cX9_with 40 = .ok (.iconst 3, 1) := by decide +kernel
theorem dX9_with_41 : decode cX9_with 41 = .ok (.invokestatic 43, 3) := by decide +kernel
theorem dX9_with_44 : decode cX9_with 44 = .ok (.ifCond .eq 20, 3) := by decide +kernel
theorem dX9_with_47 : decode cX9_with 47 = .ok (.aload_n 0, 1) := by decide +kernel
theorem dX9_with_48 : decode cX9_with 48 = .ok (.iload_n 3, 1) := by decide +kernel
theorem dX9_with_49 : decode cX9_with 49 = .ok (.invokevirtual 239, 3) := by decide +kernel
theorem dX9_with_52 : decode cX9_with 52 = .ok (.ifCond .eq 12, 3) := by decide +kernel
theorem dX9_with_55 : decode cX9_with 55 = .ok (.aload_n 0, 1) := by decide +kernel
theorem dX9_with_56 : decode cX9_with 56 = .ok (.iload 4, 2) := by decide +kernel
theorem dX9_with_58 : decode cX9_with 58 = .ok (.invokevirtual 239, 3) := by decide +kernel
theorem dX9_with_61 : decode cX9_with 61 = .ok (.ifCond .ne 9, 3) := by decide +kernel
theorem dX9_with_64 : decode cX9_with 64 = .ok (.aload_n 0, 1) := by decide +kernel
theorem dX9_with_65 : decode cX9_with 65 = .ok (.iconst 2, 1) := by decide +kernel
theorem dX9_with_66 : decode cX9_with 66 = .ok (.invokevirtual 225, 3) := by decide +kernel
theorem dX9_with_69 : decode cX9_with 69 = .ok (.ireturn, 1) := by decide +kernel
theorem dX9_with_70 : decode cX9_with 70 = .ok (.iload_n 3, 1) := by decide +kernel
theorem dX9_with_71 : decode cX9_with 71 = .ok (.iload 4, 2) := by decide +kernel
theorem dX9_with_73 : decode cX9_with 73 = .ok (.if_icmp .ne 9, 3) := by decide +kernel
theorem dX9_with_76 : decode cX9_with 76 = .ok (.aload_n 0, 1) := by decide +kernel
theorem dX9_with_77 : decode cX9_with 77 = .ok (.iconst 4, 1) := by decide +kernel
theorem dX9_with_78 : decode cX9_with 78 = .ok (.invokevirtual 225, 3) := by decide +kernel
theorem dX9_with_81 : decode cX9_with 81 = .ok (.ireturn, 1) := by decide +kernel
theorem dX9_with_82 : decode cX9_with 82 = .ok (.aload_n 0, 1) := by decide +kernel
theorem dX9_with_83 : decode cX9_with 83 = .ok (.invokevirtual 144, 3) := by decide +kernel
theorem dX9_with_86 : decode cX9_with 86 = .ok (.ifCond .eq 10, 3) := by decide +kernel
theorem dX9_with_89 : decode cX9_with 89 = .ok (.aload_n 0, 1) := by decide +kernel
theorem dX9_with_90 : decode cX9_with 90 = .ok (.bipush 6, 2) := by decide +kernel
theorem dX9_with_92 : decode cX9_with 92 = .ok (.invokevirtual 225, 3) := by decide +kernel
theorem dX9_with_95 : decode cX9_with 95 = .ok (.ireturn, 1) := by decide +kernel
theorem dX9_with_96 : decode cX9_with 96 = .ok (.aload_n 0, 1) := by decide +kernel
theorem dX9_with_97 : decode cX9_with 97 = .ok (.invokevirtual 280, 3) := by decide +kernel
theorem dX9_with_100 : decode cX9_with 100 = .ok (.aload_n 0, 1) := by decide +kernel
theorem dX9_with_101 : decode cX9_with 101 = .ok (.getfield 7, 3) := by decide +kernel
theorem dX9_with_104 : decode cX9_with 104 = .ok (.sipush 184, 3) := by decide +kernel
theorem dX9_with_107 : decode cX9_with 107 = .ok (.bipush 8, 2) := by decide +kernel
theorem dX9_with_109 : decode cX9_with 109 = .ok (.iload_n 3, 1) := by decide +kernel
theorem dX9_with_110 : decode cX9_with 110 = .ok (.imul, 1) := by decide +kernel
theorem dX9_with_111 : decode cX9_with 111 = .ok (.iadd, 1) := by decide +kernel
theorem dX9_with_112 : decode cX9_with 112 = .ok (.iload 4, 2) := by decide +kernel
theorem dX9_with_114 : decode cX9_with 114 = .ok (.iadd, 1) := by decide +kernel
theorem dX9_with_115 : decode cX9_with 115 = .ok (.iload 5, 2) := by decide +kernel
theorem dX9_with_117 : decode cX9_with 117 = .ok (.iastore, 1) := by decide +kernel
theorem dX9_with_118 : decode cX9_with 118 = .ok (.aload_n 0, 1) := by decide +kernel
theorem dX9_with_119 : decode cX9_with 119 = .ok (.iload_n 1, 1) := by decide +kernel
theorem dX9_with_120 : decode cX9_with 120 = .ok (.iload_n 2, 1) := by decide +kernel
theorem dX9_with_121 : decode cX9_with 121 = .ok (.iconst 2, 1) := by decide +kernel
theorem dX9_with_122 : decode cX9_with 122 = .ok (.invokevirtual 292, 3) := by decide +kernel
theorem dX9_with_125 : decode cX9_with 125 = .ok (.istore 6, 2) := by decide +kernel
theorem dX9_with_127 : decode cX9_with 127 = .ok (.aload_n 0, 1) := by decide +kernel
theorem dX9_with_128 : decode cX9_with 128 = .ok (.invokevirtual 286, 3) := by decide +kernel
theorem dX9_with_131 : decode cX9_with 131 = .ok (.iload 6, 2) := by decide +kernel
theorem dX9_with_133 : decode cX9_with 133 = .ok (.ireturn, 1) := by decide +kernel
theorem dX9_margin_0 : decode cX9_margin 0 = .ok (.aload_n 0, 1) := by decide +kernel
theorem dX9_margin_1 : decode cX9_margin 1 = .ok (.iload_n 1, 1) := by decide +kernel
theorem dX9_margin_2 : decode cX9_margin 2 = .ok (.iconst 1, 1) := by decide +kernel
theorem dX9_margin_3 : decode cX9_margin 3 = .ok (.sipush 200, 3) := by decide +kernel
theorem dX9_margin_6 : decode cX9_margin 6 = .ok (.invokestatic 43, 3) := by decide +kernel
theorem dX9_margin_9 : decode cX9_margin 9 = .ok (.iload_n 2, 1) := by decide +kernel
theorem dX9_margin_10 : decode cX9_margin 10 = .ok (.invokevirtual 249, 3) := by decide +kernel
theorem dX9_margin_13 : decode cX9_margin 13 = .ok (.ifCond .ne 5, 3) := by decide +kernel
theorem dX9_margin_16 : decode cX9_margin 16 = .ok (.iconst (-1), 1) := by decide +kernel
theorem dX9_margin_17 : decode cX9_margin 17 = .ok (.ireturn, 1) := by decide +kernel
theorem dX9_margin_18 : decode cX9_margin 18 = .ok (.aload_n 0, 1) := by decide +kernel
theorem dX9_margin_19 : decode cX9_margin 19 = .ok (.invokevirtual 144, 3) := by decide +kernel
theorem dX9_margin_22 : decode cX9_margin 22 = .ok (.ifCond .eq 10, 3) := by decide +kernel
theorem dX9_margin_25 : decode cX9_margin 25 = .ok (.aload_n 0, 1) := by decide +kernel
theorem dX9_margin_26 : decode cX9_margin 26 = .ok (.bipush 6, 2) := by decide +kernel
theorem dX9_margin_28 : decode cX9_margin 28 = .ok (.invokevirtual 225, 3) := by decide +kernel
theorem dX9_margin_31 : decode cX9_margin 31 = .ok (.ireturn, 1) := by decide +kernel
theorem dX9_margin_32 : decode cX9_margin 32 = .ok (.aload_n 0, 1) := by decide +kernel
theorem dX9_margin_33 : decode cX9_margin 33 = .ok (.invokevirtual 280, 3) := by decide +kernel
theorem dX9_margin_36 : decode cX9_margin 36 = .ok (.aload_n 0, 1) := by decide +kernel
theorem dX9_margin_37 : decode cX9_margin 37 = .ok (.iload_n 1, 1) := by decide +kernel
theorem dX9_margin_38 : decode cX9_margin 38 = .ok (.iload_n 2, 1) := by decide +kernel
theorem dX9_margin_39 : decode cX9_margin 39 = .ok (.iconst 2, 1) := by decide +kernel
theorem dX9_margin_40 : decode cX9_margin 40 = .ok (.invokevirtual 292, 3) := by decide +kernel
theorem dX9_margin_43 : decode cX9_margin 43 = .ok (.istore_n 3, 1) := by decide +kernel
theorem dX9_margin_44 : decode cX9_margin 44 = .ok (.aload_n 0, 1) := by decide +kernel
theorem dX9_margin_45 : decode cX9_margin 45 = .ok (.invokevirtual 286, 3) := by decide +kernel
theorem dX9_margin_48 : decode cX9_margin 48 = .ok (.aload_n 0, 1) := by decide +kernel
theorem dX9_margin_49 : decode cX9_margin 49 = .ok (.iload_n 2, 1) := by decide +kernel
theorem dX9_margin_50 : decode cX9_margin 50 = .ok (.invokevirtual 265, 3) := by decide +kernel
theorem dX9_margin_53 : decode cX9_margin 53 = .ok (.iload_n 3, 1) := by decide +kernel
theorem dX9_margin_54 : decode cX9_margin 54 = .ok (.isub, 1) := by decide +kernel
theorem dX9_margin_55 : decode cX9_margin 55 = .ok (.ireturn, 1) := by decide +kernel
theorem dX9_quickest_0 : decode cX9_quickest 0 = .ok (.aload_n 0, 1) := by decide +kernel
theorem dX9_quickest_1 : decode cX9_quickest 1 = .ok (.iconst 0, 1) := by decide +kernel
theorem dX9_quickest_2 : decode cX9_quickest 2 = .ok (.putfield 37, 3) := by decide +kernel
theorem dX9_quickest_5 : decode cX9_quickest 5 = .ok (.aload_n 0, 1) := by decide +kernel
theorem dX9_quickest_6 : decode cX9_quickest 6 = .ok (.iconst 0, 1) := by decide +kernel
theorem dX9_quickest_7 : decode cX9_quickest 7 = .ok (.putfield 40, 3) := by decide +kernel
theorem dX9_quickest_10 : decode cX9_quickest 10 = .ok (.iload_n 1, 1) := by decide +kernel
theorem dX9_quickest_11 : decode cX9_quickest 11 = .ok (.iconst 1, 1) := by decide +kernel
theorem dX9_quickest_12 : decode cX9_quickest 12 = .ok (.sipush 200, 3) := by decide +kernel
theorem dX9_quickest_15 : decode cX9_quickest 15 = .ok (.invokestatic 43, 3) := by decide +kernel
theorem dX9_quickest_18 : decode cX9_quickest 18 = .ok (.ifCond .ne 9, 3) := by decide +kernel
theorem dX9_quickest_21 : decode cX9_quickest 21 = .ok (.aload_n 0, 1) := by decide +kernel
theorem dX9_quickest_22 : decode cX9_quickest 22 = .ok (.iconst 1, 1) := by decide +kernel
theorem dX9_quickest_23 : decode cX9_quickest 23 = .ok (.invokevirtual 225, 3) := by decide +kernel
theorem dX9_quickest_26 : decode cX9_quickest 26 = .ok (.ireturn, 1) := by decide +kernel
theorem dX9_quickest_27 : decode cX9_quickest 27 = .ok (.aload_n 0, 1) := by decide +kernel
theorem dX9_quickest_28 : decode cX9_quickest 28 = .ok (.invokevirtual 144, 3) := by decide +kernel
theorem dX9_quickest_31 : decode cX9_quickest 31 = .ok (.ifCond .eq 10, 3) := by decide +kernel
theorem dX9_quickest_34 : decode cX9_quickest 34 = .ok (.aload_n 0, 1) := by decide +kernel
theorem dX9_quickest_35 : decode cX9_quickest 35 = .ok (.bipush 6, 2) := by decide +kernel
theorem dX9_quickest_37 : decode cX9_quickest 37 = .ok (.invokevirtual 225, 3) := by decide +kernel
theorem dX9_quickest_40 : decode cX9_quickest 40 = .ok (.ireturn, 1) := by decide +kernel
theorem dX9_quickest_41 : decode cX9_quickest 41 = .ok (.iconst 0, 1) := by decide +kernel
theorem dX9_quickest_42 : decode cX9_quickest 42 = .ok (.istore_n 2, 1) := by decide +kernel
theorem dX9_quickest_43 : decode cX9_quickest 43 = .ok (.iconst 0, 1) := by decide +kernel
theorem dX9_quickest_44 : decode cX9_quickest 44 = .ok (.istore_n 3, 1) := by decide +kernel
theorem dX9_quickest_45 : decode cX9_quickest 45 = .ok (.iconst 0, 1) := by decide +kernel
theorem dX9_quickest_46 : decode cX9_quickest 46 = .ok (.istore 4, 2) := by decide +kernel
theorem dX9_quickest_48 : decode cX9_quickest 48 = .ok (.iload 4, 2) := by decide +kernel
theorem dX9_quickest_50 : decode cX9_quickest 50 = .ok (.iconst 4, 1) := by decide +kernel
theorem dX9_quickest_51 : decode cX9_quickest 51 = .ok (.if_icmp .ge 47, 3) := by decide +kernel
theorem dX9_quickest_54 : decode cX9_quickest 54 = .ok (.aload_n 0, 1) := by decide +kernel
theorem dX9_quickest_55 : decode cX9_quickest 55 = .ok (.invokevirtual 280, 3) := by decide +kernel
theorem dX9_quickest_58 : decode cX9_quickest 58 = .ok (.aload_n 0, 1) := by decide +kernel
theorem dX9_quickest_59 : decode cX9_quickest 59 = .ok (.iload_n 1, 1) := by decide +kernel
theorem dX9_quickest_60 : decode cX9_quickest 60 = .ok (.iload 4, 2) := by decide +kernel
theorem dX9_quickest_62 : decode cX9_quickest 62 = .ok (.iconst 2, 1) := by decide +kernel
theorem dX9_quickest_63 : decode cX9_quickest 63 = .ok (.invokevirtual 292, 3) := by decide +kernel
theorem dX9_quickest_66 : decode cX9_quickest 66 = .ok (.istore 5, 2) := by decide +kernel
theorem dX9_quickest_68 : decode cX9_quickest 68 = .ok (.aload_n 0, 1) := by decide +kernel
theorem dX9_quickest_69 : decode cX9_quickest 69 = .ok (.invokevirtual 286, 3) := by decide +kernel
theorem dX9_quickest_72 : decode cX9_quickest 72 = .ok (.iload 4, 2) := by decide +kernel
theorem dX9_quickest_74 : decode cX9_quickest 74 = .ok (.ifCond .le 12, 3) := by decide +kernel
theorem dX9_quickest_77 : decode cX9_quickest 77 = .ok (.iload 5, 2) := by decide +kernel
theorem dX9_quickest_79 : decode cX9_quickest 79 = .ok (.iload_n 3, 1) := by decide +kernel
theorem dX9_quickest_80 : decode cX9_quickest 80 = .ok (.if_icmp .lt 6, 3) := by decide +kernel
theorem dX9_quickest_83 : decode cX9_quickest 83 = .ok (.goto 9, 3) := by decide +kernel
theorem dX9_quickest_86 : decode cX9_quickest 86 = .ok (.iload 4, 2) := by decide +kernel
theorem dX9_quickest_88 : decode cX9_quickest 88 = .ok (.istore_n 2, 1) := by decide +kernel
theorem dX9_quickest_89 : decode cX9_quickest 89 = .ok (.iload 5, 2) := by decide +kernel
theorem dX9_quickest_91 : decode cX9_quickest 91 = .ok (.istore_n 3, 1) := by decide +kernel
theorem dX9_quickest_92 : decode cX9_quickest 92 = .ok (.iinc 4 1, 3) := by decide +kernel
theorem dX9_quickest_95 : decode cX9_quickest 95 = .ok (.goto (-47), 3) := by decide +kernel
theorem dX9_quickest_98 : decode cX9_quickest 98 = .ok (.iload_n 2, 1) := by decide +kernel
theorem dX9_quickest_99 : decode cX9_quickest 99 = .ok (.ireturn, 1) := by decide +kernel
theorem dX9_sentBy_0 : decode cX9_sentBy 0 = .ok (.aload_n 0, 1) := by decide +kernel
theorem dX9_sentBy_1 : decode cX9_sentBy 1 = .ok (.invokevirtual 280, 3) := by decide +kernel
theorem dX9_sentBy_4 : decode cX9_sentBy 4 = .ok (.aload_n 0, 1) := by decide +kernel
theorem dX9_sentBy_5 : decode cX9_sentBy 5 = .ok (.iload_n 1, 1) := by decide +kernel
theorem dX9_sentBy_6 : decode cX9_sentBy 6 = .ok (.invokevirtual 271, 3) := by decide +kernel
theorem dX9_sentBy_9 : decode cX9_sentBy 9 = .ok (.aload_n 0, 1) := by decide +kernel
theorem dX9_sentBy_10 : decode cX9_sentBy 10 = .ok (.bipush 6, 2) := by decide +kernel
theorem dX9_sentBy_12 : decode cX9_sentBy 12 = .ok (.invokevirtual 283, 3) := by decide +kernel
theorem dX9_sentBy_15 : decode cX9_sentBy 15 = .ok (.istore_n 2, 1) := by decide +kernel
theorem dX9_sentBy_16 : decode cX9_sentBy 16 = .ok (.aload_n 0, 1) := by decide +kernel
theorem dX9_sentBy_17 : decode cX9_sentBy 17 = .ok (.getfield 7, 3) := by decide +kernel
theorem dX9_sentBy_20 : decode cX9_sentBy 20 = .ok (.bipush 7, 2) := by decide +kernel
theorem dX9_sentBy_22 : decode cX9_sentBy 22 = .ok (.iaload, 1) := by decide +kernel
theorem dX9_sentBy_23 : decode cX9_sentBy 23 = .ok (.istore_n 3, 1) := by decide +kernel
theorem dX9_sentBy_24 : decode cX9_sentBy 24 = .ok (.aload_n 0, 1) := by decide +kernel
theorem dX9_sentBy_25 : decode cX9_sentBy 25 = .ok (.invokevirtual 286, 3) := by decide +kernel
theorem dX9_sentBy_28 : decode cX9_sentBy 28 = .ok (.iload_n 3, 1) := by decide +kernel
theorem dX9_sentBy_29 : decode cX9_sentBy 29 = .ok (.ireturn, 1) := by decide +kernel
theorem dX9_enough_0 : decode cX9_enough 0 = .ok (.aload_n 0, 1) := by decide +kernel
theorem dX9_enough_1 : decode cX9_enough 1 = .ok (.iconst 0, 1) := by decide +kernel
theorem dX9_enough_2 : decode cX9_enough 2 = .ok (.putfield 37, 3) := by decide +kernel
theorem dX9_enough_5 : decode cX9_enough 5 = .ok (.aload_n 0, 1) := by decide +kernel
theorem dX9_enough_6 : decode cX9_enough 6 = .ok (.iconst 0, 1) := by decide +kernel
theorem dX9_enough_7 : decode cX9_enough 7 = .ok (.putfield 40, 3) := by decide +kernel
theorem dX9_enough_10 : decode cX9_enough 10 = .ok (.aload_n 0, 1) := by decide +kernel
theorem dX9_enough_11 : decode cX9_enough 11 = .ok (.invokevirtual 144, 3) := by decide +kernel
theorem dX9_enough_14 : decode cX9_enough 14 = .ok (.ifCond .eq 10, 3) := by decide +kernel
theorem dX9_enough_17 : decode cX9_enough 17 = .ok (.aload_n 0, 1) := by decide +kernel
theorem dX9_enough_18 : decode cX9_enough 18 = .ok (.bipush 6, 2) := by decide +kernel
theorem dX9_enough_20 : decode cX9_enough 20 = .ok (.invokevirtual 225, 3) := by decide +kernel
theorem dX9_enough_23 : decode cX9_enough 23 = .ok (.ireturn, 1) := by decide +kernel
theorem dX9_enough_24 : decode cX9_enough 24 = .ok (.aload_n 0, 1) := by decide +kernel
theorem dX9_enough_25 : decode cX9_enough 25 = .ok (.sipush 200, 3) := by decide +kernel
theorem dX9_enough_28 : decode cX9_enough 28 = .ok (.invokevirtual 295, 3) := by decide +kernel
theorem dX9_enough_31 : decode cX9_enough 31 = .ok (.istore_n 1, 1) := by decide +kernel
theorem dX9_enough_32 : decode cX9_enough 32 = .ok (.iconst 1, 1) := by decide +kernel
theorem dX9_enough_33 : decode cX9_enough 33 = .ok (.istore_n 2, 1) := by decide +kernel
theorem dX9_enough_34 : decode cX9_enough 34 = .ok (.aload_n 0, 1) := by decide +kernel
theorem dX9_enough_35 : decode cX9_enough 35 = .ok (.iload_n 2, 1) := by decide +kernel
theorem dX9_enough_36 : decode cX9_enough 36 = .ok (.invokevirtual 295, 3) := by decide +kernel
theorem dX9_enough_39 : decode cX9_enough 39 = .ok (.iload_n 1, 1) := by decide +kernel
theorem dX9_enough_40 : decode cX9_enough 40 = .ok (.if_icmp .eq 9, 3) := by decide +kernel
theorem dX9_enough_43 : decode cX9_enough 43 = .ok (.iinc 2 1, 3) := by decide +kernel
theorem dX9_enough_46 : decode cX9_enough 46 = .ok (.goto (-12), 3) := by decide +kernel
theorem dX9_enough_49 : decode cX9_enough 49 = .ok (.iload_n 2, 1) := by decide +kernel
theorem dX9_enough_50 : decode cX9_enough 50 = .ok (.ireturn, 1) := by decide +kernel
