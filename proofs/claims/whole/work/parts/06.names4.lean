theorem dX3_breakUp_114 : decode cX3_breakUp 114 = .ok (.iconst (-1), 1) := by decide +kernel
theorem dX3_breakUp_115 : decode cX3_breakUp 115 = .ok (.iastore, 1) := by decide +kernel
theorem dX3_breakUp_116 : decode cX3_breakUp 116 = .ok (.aload_n 0, 1) := by decide +kernel
theorem dX3_breakUp_117 : decode cX3_breakUp 117 = .ok (.getfield 17, 3) := by decide +kernel
theorem dX3_breakUp_120 : decode cX3_breakUp 120 = .ok (.iload 4, 2) := by decide +kernel
theorem dX3_breakUp_122 : decode cX3_breakUp 122 = .ok (.iconst 0, 1) := by decide +kernel
theorem dX3_breakUp_123 : decode cX3_breakUp 123 = .ok (.aload_n 0, 1) := by decide +kernel
theorem dX3_breakUp_124 : decode cX3_breakUp 124 = .ok (.getfield 17, 3) := by decide +kernel
theorem dX3_breakUp_127 : decode cX3_breakUp 127 = .ok (.iload 4, 2) := by decide +kernel
theorem dX3_breakUp_129 : decode cX3_breakUp 129 = .ok (.iaload, 1) := by decide +kernel
theorem dX3_breakUp_130 : decode cX3_breakUp 130 = .ok (.bipush 30, 2) := by decide +kernel
theorem dX3_breakUp_132 : decode cX3_breakUp 132 = .ok (.isub, 1) := by decide +kernel
theorem dX3_breakUp_133 : decode cX3_breakUp 133 = .ok (.invokestatic 128, 3) := by decide +kernel
theorem dX3_breakUp_136 : decode cX3_breakUp 136 = .ok (.iastore, 1) := by decide +kernel
theorem dX3_breakUp_137 : decode cX3_breakUp 137 = .ok (.iconst 0, 1) := by decide +kernel
theorem dX3_breakUp_138 : decode cX3_breakUp 138 = .ok (.istore_n 3, 1) := by decide +kernel
theorem dX3_breakUp_139 : decode cX3_breakUp 139 = .ok (.iinc 4 1, 3) := by decide +kernel
theorem dX3_breakUp_142 : decode cX3_breakUp 142 = .ok (.goto (-66), 3) := by decide +kernel
theorem dX3_breakUp_145 : decode cX3_breakUp 145 = .ok (.aload_n 0, 1) := by decide +kernel
theorem dX3_breakUp_146 : decode cX3_breakUp 146 = .ok (.getfield 35, 3) := by decide +kernel
theorem dX3_breakUp_149 : decode cX3_breakUp 149 = .ok (.iload_n 1, 1) := by decide +kernel
theorem dX3_breakUp_150 : decode cX3_breakUp 150 = .ok (.iconst 0, 1) := by decide +kernel
theorem dX3_breakUp_151 : decode cX3_breakUp 151 = .ok (.bastore, 1) := by decide +kernel
theorem dX3_breakUp_152 : decode cX3_breakUp 152 = .ok (.iload_n 2, 1) := by decide +kernel
theorem dX3_breakUp_153 : decode cX3_breakUp 153 = .ok (.ireturn, 1) := by decide +kernel
theorem dX3_stavesOf_0 : decode cX3_stavesOf 0 = .ok (.iconst 0, 1) := by decide +kernel
theorem dX3_stavesOf_1 : decode cX3_stavesOf 1 = .ok (.istore_n 2, 1) := by decide +kernel
theorem dX3_stavesOf_2 : decode cX3_stavesOf 2 = .ok (.iconst 0, 1) := by decide +kernel
theorem dX3_stavesOf_3 : decode cX3_stavesOf 3 = .ok (.istore_n 3, 1) := by decide +kernel
theorem dX3_stavesOf_4 : decode cX3_stavesOf 4 = .ok (.iload_n 3, 1) := by decide +kernel
theorem dX3_stavesOf_5 : decode cX3_stavesOf 5 = .ok (.aload_n 0, 1) := by decide +kernel
theorem dX3_stavesOf_6 : decode cX3_stavesOf 6 = .ok (.getfield 78, 3) := by decide +kernel
theorem dX3_stavesOf_9 : decode cX3_stavesOf 9 = .ok (.if_icmp .ge 27, 3) := by decide +kernel
theorem dX3_stavesOf_12 : decode cX3_stavesOf 12 = .ok (.iload_n 2, 1) := by decide +kernel
theorem dX3_stavesOf_13 : decode cX3_stavesOf 13 = .ok (.aload_n 0, 1) := by decide +kernel
theorem dX3_stavesOf_14 : decode cX3_stavesOf 14 = .ok (.getfield 20, 3) := by decide +kernel
theorem dX3_stavesOf_17 : decode cX3_stavesOf 17 = .ok (.iload_n 3, 1) := by decide +kernel
theorem dX3_stavesOf_18 : decode cX3_stavesOf 18 = .ok (.iaload, 1) := by decide +kernel
theorem dX3_stavesOf_19 : decode cX3_stavesOf 19 = .ok (.iload_n 1, 1) := by decide +kernel
theorem dX3_stavesOf_20 : decode cX3_stavesOf 20 = .ok (.if_icmp .ne 7, 3) := by decide +kernel
theorem dX3_stavesOf_23 : decode cX3_stavesOf 23 = .ok (.iconst 1, 1) := by decide +kernel
theorem dX3_stavesOf_24 : decode cX3_stavesOf 24 = .ok (.goto 4, 3) := by decide +kernel
theorem dX3_stavesOf_27 : decode cX3_stavesOf 27 = .ok (.iconst 0, 1) := by decide +kernel
theorem dX3_stavesOf_28 : decode cX3_stavesOf 28 = .ok (.iadd, 1) := by decide +kernel
theorem dX3_stavesOf_29 : decode cX3_stavesOf 29 = .ok (.istore_n 2, 1) := by decide +kernel
theorem dX3_stavesOf_30 : decode cX3_stavesOf 30 = .ok (.iinc 3 1, 3) := by decide +kernel
theorem dX3_stavesOf_33 : decode cX3_stavesOf 33 = .ok (.goto (-29), 3) := by decide +kernel
theorem dX3_stavesOf_36 : decode cX3_stavesOf 36 = .ok (.iload_n 2, 1) := by decide +kernel
theorem dX3_stavesOf_37 : decode cX3_stavesOf 37 = .ok (.ireturn, 1) := by decide +kernel
set_option maxRecDepth 20000 in
theorem ggX3_leak_X3_tensions : GoodIn wsX3_leak wsX3_tensions := goodIn_r _ [11, 12, 13, 14, 15, 10, 16, 17, 18, 19, 20, 21, 22, 23, 24, 25, 26, 27, 28, 29, 30, 31, 32, 33, 34, 35, 36, 37, 38, 39, 40, 41, 42, 43, 44] (by decide +kernel) (by decide +kernel)
set_option maxRecDepth 20000 in
theorem gX3_leak_X3_tensions : GoodIn wsX3_leak (wsV RX3 119 RX3 yX3_tensions wsX3_tensions) := goodIn_app (goodIn_of _ (by decide +kernel)) ggX3_leak_X3_tensions
theorem dX3_leak_0 : decode cX3_leak 0 = .ok (.iconst 0, 1) := by decide +kernel
theorem dX3_leak_1 : decode cX3_leak 1 = .ok (.bipush 30, 2) := by decide +kernel
theorem dX3_leak_3 : decode cX3_leak 3 = .ok (.bipush 10, 2) := by decide +kernel
theorem dX3_leak_5 : decode cX3_leak 5 = .ok (.aload_n 0, 1) := by decide +kernel
theorem dX3_leak_6 : decode cX3_leak 6 = .ok (.getfield 39, 3) := by decide +kernel
theorem dX3_leak_9 : decode cX3_leak 9 = .ok (.iload_n 1, 1) := by decide +kernel
theorem dX3_leak_10 : decode cX3_leak 10 = .ok (.iaload, 1) := by decide +kernel
theorem dX3_leak_11 : decode cX3_leak 11 = .ok (.imul, 1) := by decide +kernel
theorem dX3_leak_12 : decode cX3_leak 12 = .ok (.iadd, 1) := by decide +kernel
theorem dX3_leak_13 : decode cX3_leak 13 = .ok (.iconst 2, 1) := by decide +kernel
theorem dX3_leak_14 : decode cX3_leak 14 = .ok (.aload_n 0, 1) := by decide +kernel
theorem dX3_leak_15 : decode cX3_leak 15 = .ok (.iload_n 1, 1) := by decide +kernel
theorem dX3_leak_16 : decode cX3_leak 16 = .ok (.invokevirtual 119, 3) := by decide +kernel
theorem dX3_leak_19 : decode cX3_leak 19 = .ok (.imul, 1) := by decide +kernel
theorem dX3_leak_20 : decode cX3_leak 20 = .ok (.isub, 1) := by decide +kernel
theorem dX3_leak_21 : decode cX3_leak 21 = .ok (.aload_n 0, 1) := by decide +kernel
theorem dX3_leak_22 : decode cX3_leak 22 = .ok (.getfield 45, 3) := by decide +kernel
theorem dX3_leak_25 : decode cX3_leak 25 = .ok (.iload_n 1, 1) := by decide +kernel
theorem dX3_leak_26 : decode cX3_leak 26 = .ok (.iaload, 1) := by decide +kernel
theorem dX3_leak_27 : decode cX3_leak 27 = .ok (.isub, 1) := by decide +kernel
theorem dX3_leak_28 : decode cX3_leak 28 = .ok (.invokestatic 128, 3) := by decide +kernel
theorem dX3_leak_31 : decode cX3_leak 31 = .ok (.ireturn, 1) := by decide +kernel
set_option maxRecDepth 20000 in
theorem ggX3_caskTold_X3_leak : GoodIn wsX3_caskTold wsX3_leak := goodIn_r _ [14, 6, 7, 15, 16, 17, 18, 19, 20, 21, 13, 22, 23, 24, 25, 26, 27, 2, 28, 1, 39, 40, 41, 42, 43, 44, 45, 46, 47, 48, 49, 50, 51, 52, 53, 54, 55, 56, 57, 58, 59, 60, 61, 62, 63] (by decide +kernel) (by decide +kernel)
set_option maxRecDepth 20000 in
theorem gX3_caskTold_X3_leak : GoodIn wsX3_caskTold (wsV RX3 131 RX3 yX3_leak wsX3_leak) := goodIn_app (goodIn_of _ (by decide +kernel)) ggX3_caskTold_X3_leak
set_option maxRecDepth 20000 in
theorem ggX3_caskTold_X3_stavesOf : GoodIn wsX3_caskTold wsX3_stavesOf := goodIn_r _ [32, 33, 34, 39, 40, 41, 42, 43, 44, 45, 46, 47, 48, 49, 50, 51, 52, 53, 54, 55, 56, 57, 58, 59, 60, 61, 62, 63] (by decide +kernel) (by decide +kernel)
set_option maxRecDepth 20000 in
theorem gX3_caskTold_X3_stavesOf : GoodIn wsX3_caskTold (wsV RX3 134 RX3 yX3_stavesOf wsX3_stavesOf) := goodIn_app (goodIn_of _ (by decide +kernel)) ggX3_caskTold_X3_stavesOf
set_option maxRecDepth 20000 in
theorem ggX3_caskTold_X3_tensions : GoodIn wsX3_caskTold wsX3_tensions := goodIn_r _ [22, 23, 24, 25, 26, 13, 27, 2, 28, 1, 39, 40, 41, 42, 43, 44, 45, 46, 47, 48, 49, 50, 51, 52, 53, 54, 55, 56, 57, 58, 59, 60, 61, 62, 63] (by decide +kernel) (by decide +kernel)
set_option maxRecDepth 20000 in
theorem gX3_caskTold_X3_tensions : GoodIn wsX3_caskTold (wsV RX3 119 RX3 yX3_tensions wsX3_tensions) := goodIn_app (goodIn_of _ (by decide +kernel)) ggX3_caskTold_X3_tensions
set_option maxRecDepth 20000 in
theorem ggX3_caskTold_X3_all : GoodIn wsX3_caskTold wsX3_all := goodIn_r _ [38, 3, 39, 40, 41, 42, 43, 44, 45, 46, 47, 48, 49, 50, 51, 52, 53, 54, 55, 56, 57, 58, 59, 60, 61, 62, 63] (by decide +kernel) (by decide +kernel)
set_option maxRecDepth 20000 in
theorem gX3_caskTold_X3_all : GoodIn wsX3_caskTold (wsV RX3 122 RX3 yX3_all wsX3_all) := goodIn_app (goodIn_of _ (by decide +kernel)) ggX3_caskTold_X3_all
theorem dX3_caskTold_0 : decode cX3_caskTold 0 = .ok (.iload_n 2, 1) := by decide +kernel
theorem dX3_caskTold_1 : decode cX3_caskTold 1 = .ok (.ifCond .ne 10, 3) := by decide +kernel
theorem dX3_caskTold_4 : decode cX3_caskTold 4 = .ok (.aload_n 0, 1) := by decide +kernel
theorem dX3_caskTold_5 : decode cX3_caskTold 5 = .ok (.getfield 32, 3) := by decide +kernel
theorem dX3_caskTold_8 : decode cX3_caskTold 8 = .ok (.iload_n 1, 1) := by decide +kernel
theorem dX3_caskTold_9 : decode cX3_caskTold 9 = .ok (.iaload, 1) := by decide +kernel
theorem dX3_caskTold_10 : decode cX3_caskTold 10 = .ok (.ireturn, 1) := by decide +kernel
theorem dX3_caskTold_11 : decode cX3_caskTold 11 = .ok (.iload_n 2, 1) := by decide +kernel
theorem dX3_caskTold_12 : decode cX3_caskTold 12 = .ok (.bipush 15, 2) := by decide +kernel
theorem dX3_caskTold_14 : decode cX3_caskTold 14 = .ok (.if_icmp .eq 12, 3) := by decide +kernel
theorem dX3_caskTold_17 : decode cX3_caskTold 17 = .ok (.aload_n 0, 1) := by decide +kernel
theorem dX3_caskTold_18 : decode cX3_caskTold 18 = .ok (.getfield 35, 3) := by decide +kernel
theorem dX3_caskTold_21 : decode cX3_caskTold 21 = .ok (.iload_n 1, 1) := by decide +kernel
theorem dX3_caskTold_22 : decode cX3_caskTold 22 = .ok (.baload, 1) := by decide +kernel
theorem dX3_caskTold_23 : decode cX3_caskTold 23 = .ok (.ifCond .ne 18, 3) := by decide +kernel
theorem dX3_caskTold_26 : decode cX3_caskTold 26 = .ok (.aload_n 0, 1) := by decide +kernel
theorem dX3_caskTold_27 : decode cX3_caskTold 27 = .ok (.getfield 35, 3) := by decide +kernel
theorem dX3_caskTold_30 : decode cX3_caskTold 30 = .ok (.iload_n 1, 1) := by decide +kernel
theorem dX3_caskTold_31 : decode cX3_caskTold 31 = .ok (.baload, 1) := by decide +kernel
theorem dX3_caskTold_32 : decode cX3_caskTold 32 = .ok (.ifCond .eq 7, 3) := by decide +kernel
theorem dX3_caskTold_35 : decode cX3_caskTold 35 = .ok (.iconst 1, 1) := by decide +kernel
theorem dX3_caskTold_36 : decode cX3_caskTold 36 = .ok (.goto 4, 3) := by decide +kernel
theorem dX3_caskTold_39 : decode cX3_caskTold 39 = .ok (.iconst 0, 1) := by decide +kernel
theorem dX3_caskTold_40 : decode cX3_caskTold 40 = .ok (.ireturn, 1) := by decide +kernel
theorem dX3_caskTold_41 : decode cX3_caskTold 41 = .ok (.iload_n 2, 1) := by decide +kernel
theorem dX3_caskTold_42 : decode cX3_caskTold 42 = .ok (.bipush 7, 2) := by decide +kernel
theorem dX3_caskTold_44 : decode cX3_caskTold 44 = .ok (.if_icmp .le 23, 3) := by decide +kernel
theorem dX3_caskTold_47 : decode cX3_caskTold 47 = .ok (.iload_n 2, 1) := by decide +kernel
theorem dX3_caskTold_48 : decode cX3_caskTold 48 = .ok (.bipush 13, 2) := by decide +kernel
theorem dX3_caskTold_50 : decode cX3_caskTold 50 = .ok (.if_icmp .ge 17, 3) := by decide +kernel
theorem dX3_caskTold_53 : decode cX3_caskTold 53 = .ok (.aload_n 0, 1) := by decide +kernel
theorem dX3_caskTold_54 : decode cX3_caskTold 54 = .ok (.getfield 54, 3) := by decide +kernel
theorem dX3_caskTold_57 : decode cX3_caskTold 57 = .ok (.iconst 5, 1) := by decide +kernel
theorem dX3_caskTold_58 : decode cX3_caskTold 58 = .ok (.iload_n 1, 1) := by decide +kernel
theorem dX3_caskTold_59 : decode cX3_caskTold 59 = .ok (.imul, 1) := by decide +kernel
theorem dX3_caskTold_60 : decode cX3_caskTold 60 = .ok (.iload_n 2, 1) := by decide +kernel
theorem dX3_caskTold_61 : decode cX3_caskTold 61 = .ok (.iadd, 1) := by decide +kernel
theorem dX3_caskTold_62 : decode cX3_caskTold 62 = .ok (.bipush 8, 2) := by decide +kernel
theorem dX3_caskTold_64 : decode cX3_caskTold 64 = .ok (.isub, 1) := by decide +kernel
theorem dX3_caskTold_65 : decode cX3_caskTold 65 = .ok (.iaload, 1) := by decide +kernel
theorem dX3_caskTold_66 : decode cX3_caskTold 66 = .ok (.ireturn, 1) := by decide +kernel
theorem dX3_caskTold_67 : decode cX3_caskTold 67 = .ok (.iload_n 2, 1) := by decide +kernel
theorem dX3_caskTold_68 : decode cX3_caskTold 68 = .ok (.bipush 12, 2) := by decide +kernel
theorem dX3_caskTold_70 : decode cX3_caskTold 70 = .ok (.if_icmp .le 24, 3) := by decide +kernel
theorem dX3_caskTold_73 : decode cX3_caskTold 73 = .ok (.iload_n 2, 1) := by decide +kernel
theorem dX3_caskTold_74 : decode cX3_caskTold 74 = .ok (.bipush 13, 2) := by decide +kernel
theorem dX3_caskTold_76 : decode cX3_caskTold 76 = .ok (.if_icmp .ne 12, 3) := by decide +kernel
theorem dX3_caskTold_79 : decode cX3_caskTold 79 = .ok (.aload_n 0, 1) := by decide +kernel
theorem dX3_caskTold_80 : decode cX3_caskTold 80 = .ok (.getfield 57, 3) := by decide +kernel
theorem dX3_caskTold_83 : decode cX3_caskTold 83 = .ok (.iload_n 1, 1) := by decide +kernel
theorem dX3_caskTold_84 : decode cX3_caskTold 84 = .ok (.iaload, 1) := by decide +kernel
theorem dX3_caskTold_85 : decode cX3_caskTold 85 = .ok (.goto 8, 3) := by decide +kernel
theorem dX3_caskTold_88 : decode cX3_caskTold 88 = .ok (.aload_n 0, 1) := by decide +kernel
theorem dX3_caskTold_89 : decode cX3_caskTold 89 = .ok (.iload_n 1, 1) := by decide +kernel
theorem dX3_caskTold_90 : decode cX3_caskTold 90 = .ok (.invokevirtual 131, 3) := by decide +kernel
theorem dX3_caskTold_93 : decode cX3_caskTold 93 = .ok (.ireturn, 1) := by decide +kernel
theorem dX3_caskTold_94 : decode cX3_caskTold 94 = .ok (.bipush 8, 2) := by decide +kernel
theorem dX3_caskTold_96 : decode cX3_caskTold 96 = .ok (.newarray .int, 2) := by decide +kernel
theorem dX3_caskTold_98 : decode cX3_caskTold 98 = .ok (.dup, 1) := by decide +kernel
theorem dX3_caskTold_99 : decode cX3_caskTold 99 = .ok (.iconst 0, 1) := by decide +kernel
theorem dX3_caskTold_100 : decode cX3_caskTold 100 = .ok (.iconst 0, 1) := by decide +kernel
theorem dX3_caskTold_101 : decode cX3_caskTold 101 = .ok (.iastore, 1) := by decide +kernel
theorem dX3_caskTold_102 : decode cX3_caskTold 102 = .ok (.dup, 1) := by decide +kernel
theorem dX3_caskTold_103 : decode cX3_caskTold 103 = .ok (.iconst 1, 1) := by decide +kernel
theorem dX3_caskTold_104 : decode cX3_caskTold 104 = .ok (.aload_n 0, 1) := by decide +kernel
theorem dX3_caskTold_105 : decode cX3_caskTold 105 = .ok (.iload_n 1, 1) := by decide +kernel
theorem dX3_caskTold_106 : decode cX3_caskTold 106 = .ok (.invokevirtual 134, 3) := by decide +kernel
theorem dX3_caskTold_109 : decode cX3_caskTold 109 = .ok (.iastore, 1) := by decide +kernel
theorem dX3_caskTold_110 : decode cX3_caskTold 110 = .ok (.dup, 1) := by decide +kernel
theorem dX3_caskTold_111 : decode cX3_caskTold 111 = .ok (.iconst 2, 1) := by decide +kernel
theorem dX3_caskTold_112 : decode cX3_caskTold 112 = .ok (.aload_n 0, 1) := by decide +kernel
theorem dX3_caskTold_113 : decode cX3_caskTold 113 = .ok (.getfield 39, 3) := by decide +kernel
theorem dX3_caskTold_116 : decode cX3_caskTold 116 = .ok (.iload_n 1, 1) := by decide +kernel
theorem dX3_caskTold_117 : decode cX3_caskTold 117 = .ok (.iaload, 1) := by decide +kernel
theorem dX3_caskTold_118 : decode cX3_caskTold 118 = .ok (.iastore, 1) := by decide +kernel
theorem dX3_caskTold_119 : decode cX3_caskTold 119 = .ok (.dup, 1) := by decide +kernel
theorem dX3_caskTold_120 : decode cX3_caskTold 120 = .ok (.iconst 3, 1) := by decide +kernel
theorem dX3_caskTold_121 : decode cX3_caskTold 121 = .ok (.aload_n 0, 1) := by decide +kernel
theorem dX3_caskTold_122 : decode cX3_caskTold 122 = .ok (.iload_n 1, 1) := by decide +kernel
theorem dX3_caskTold_123 : decode cX3_caskTold 123 = .ok (.invokevirtual 119, 3) := by decide +kernel
theorem dX3_caskTold_126 : decode cX3_caskTold 126 = .ok (.iastore, 1) := by decide +kernel
theorem dX3_caskTold_127 : decode cX3_caskTold 127 = .ok (.dup, 1) := by decide +kernel
theorem dX3_caskTold_128 : decode cX3_caskTold 128 = .ok (.iconst 4, 1) := by decide +kernel
theorem dX3_caskTold_129 : decode cX3_caskTold 129 = .ok (.aload_n 0, 1) := by decide +kernel
theorem dX3_caskTold_130 : decode cX3_caskTold 130 = .ok (.getfield 45, 3) := by decide +kernel
theorem dX3_caskTold_133 : decode cX3_caskTold 133 = .ok (.iload_n 1, 1) := by decide +kernel
theorem dX3_caskTold_134 : decode cX3_caskTold 134 = .ok (.iaload, 1) := by decide +kernel
theorem dX3_caskTold_135 : decode cX3_caskTold 135 = .ok (.iastore, 1) := by decide +kernel
theorem dX3_caskTold_136 : decode cX3_caskTold 136 = .ok (.dup, 1) := by decide +kernel
theorem dX3_caskTold_137 : decode cX3_caskTold 137 = .ok (.iconst 5, 1) := by decide +kernel
theorem dX3_caskTold_138 : decode cX3_caskTold 138 = .ok (.aload_n 0, 1) := by decide +kernel
theorem dX3_caskTold_139 : decode cX3_caskTold 139 = .ok (.getfield 48, 3) := by decide +kernel
theorem dX3_caskTold_142 : decode cX3_caskTold 142 = .ok (.iload_n 1, 1) := by decide +kernel
theorem dX3_caskTold_143 : decode cX3_caskTold 143 = .ok (.iaload, 1) := by decide +kernel
theorem dX3_caskTold_144 : decode cX3_caskTold 144 = .ok (.iastore, 1) := by decide +kernel
theorem dX3_caskTold_145 : decode cX3_caskTold 145 = .ok (.dup, 1) := by decide +kernel
theorem dX3_caskTold_146 : decode cX3_caskTold 146 = .ok (.bipush 6, 2) := by decide +kernel
theorem dX3_caskTold_148 : decode cX3_caskTold 148 = .ok (.aload_n 0, 1) := by decide +kernel
theorem dX3_caskTold_149 : decode cX3_caskTold 149 = .ok (.getfield 51, 3) := by decide +kernel
theorem dX3_caskTold_152 : decode cX3_caskTold 152 = .ok (.iload_n 1, 1) := by decide +kernel
theorem dX3_caskTold_153 : decode cX3_caskTold 153 = .ok (.iaload, 1) := by decide +kernel
theorem dX3_caskTold_154 : decode cX3_caskTold 154 = .ok (.iastore, 1) := by decide +kernel
theorem dX3_caskTold_155 : decode cX3_caskTold 155 = .ok (.dup, 1) := by decide +kernel
theorem dX3_caskTold_156 : decode cX3_caskTold 156 = .ok (.bipush 7, 2) := by decide +kernel
theorem dX3_caskTold_158 : decode cX3_caskTold 158 = .ok (.aload_n 0, 1) := by decide +kernel
theorem dX3_caskTold_159 : decode cX3_caskTold 159 = .ok (.iload_n 1, 1) := by decide +kernel
theorem dX3_caskTold_160 : decode cX3_caskTold 160 = .ok (.invokevirtual 122, 3) := by decide +kernel
theorem dX3_caskTold_163 : decode cX3_caskTold 163 = .ok (.iastore, 1) := by decide +kernel
theorem dX3_caskTold_164 : decode cX3_caskTold 164 = .ok (.astore_n 3, 1) := by decide +kernel
theorem dX3_caskTold_165 : decode cX3_caskTold 165 = .ok (.aload_n 3, 1) := by decide +kernel
theorem dX3_caskTold_166 : decode cX3_caskTold 166 = .ok (.iload_n 2, 1) := by decide +kernel
theorem dX3_caskTold_167 : decode cX3_caskTold 167 = .ok (.iaload, 1) := by decide +kernel
theorem dX3_caskTold_168 : decode cX3_caskTold 168 = .ok (.ireturn, 1) := by decide +kernel
set_option maxRecDepth 20000 in
theorem ggX3_cask_X3_isCask : GoodIn wsX3_cask wsX3_isCask := goodIn_r _ [6, 7, 8, 9, 5, 10, 56, 57, 58, 59, 60, 61, 62, 63, 64, 65, 66, 67, 68, 69, 70, 71, 72, 73, 74, 75, 76, 77, 78, 79, 80] (by decide +kernel) (by decide +kernel)
set_option maxRecDepth 20000 in
theorem gX3_cask_X3_isCask : GoodIn wsX3_cask (wsV RX3 116 RX3 yX3_isCask wsX3_isCask) := goodIn_app (goodIn_of _ (by decide +kernel)) ggX3_cask_X3_isCask
set_option maxRecDepth 20000 in
theorem ggX3_cask_X3_isIn : GoodIn wsX3_cask wsX3_isIn := goodIn_r _ [10] (by decide +kernel) (by decide +kernel)
set_option maxRecDepth 20000 in
theorem gX3_cask_X3_isIn : GoodIn wsX3_cask (va_wsS RX3 70 yX3_isIn wsX3_isIn) := goodIn_app (goodIn_of _ (by decide +kernel)) ggX3_cask_X3_isIn
set_option maxRecDepth 20000 in
theorem ggX3_cask_X3_caskTold : GoodIn wsX3_cask wsX3_caskTold := goodIn_r _ [14, 15, 16, 17, 18, 19, 20, 21, 22, 23, 24, 25, 26, 5, 27, 28, 29, 30, 31, 32, 33, 34, 35, 36, 37, 38, 39, 40, 41, 42, 43, 44, 45, 46, 47, 48, 49, 50, 51, 56, 57, 58, 59, 60, 61, 62, 63, 64, 65, 66, 67, 68, 69, 70, 71, 72, 73, 74, 75, 76, 77, 78, 79, 80] (by decide +kernel) (by decide +kernel)
set_option maxRecDepth 20000 in
theorem gX3_cask_X3_caskTold : GoodIn wsX3_cask (wsV RX3 137 RX3 yX3_caskTold wsX3_caskTold) := goodIn_app (goodIn_of _ (by decide +kernel)) ggX3_cask_X3_caskTold
set_option maxRecDepth 20000 in
theorem ggX3_cask_X3_no : GoodIn wsX3_cask wsX3_no := goodIn_r _ [55, 1, 56, 57, 58, 59, 60, 61, 62, 63, 64, 65, 66, 67, 68, 69, 70, 71, 72, 73, 74, 75, 76, 77, 78, 79, 80] (by decide +kernel) (by decide +kernel)
set_option maxRecDepth 20000 in
theorem gX3_cask_X3_no : GoodIn wsX3_cask (wsV RX3 74 RX3 yX3_no wsX3_no) := goodIn_app (goodIn_of _ (by decide +kernel)) ggX3_cask_X3_no
theorem dX3_cask_0 : decode cX3_cask 0 = .ok (.aload_n 0, 1) := by decide +kernel
theorem dX3_cask_1 : decode cX3_cask 1 = .ok (.iconst 0, 1) := by decide +kernel
theorem dX3_cask_2 : decode cX3_cask 2 = .ok (.putfield 67, 3) := by decide +kernel
theorem dX3_cask_5 : decode cX3_cask 5 = .ok (.aload_n 0, 1) := by decide +kernel
theorem dX3_cask_6 : decode cX3_cask 6 = .ok (.iload_n 1, 1) := by decide +kernel
theorem dX3_cask_7 : decode cX3_cask 7 = .ok (.invokevirtual 116, 3) := by decide +kernel
theorem dX3_cask_10 : decode cX3_cask 10 = .ok (.ifCond .eq 22, 3) := by decide +kernel
theorem dX3_cask_13 : decode cX3_cask 13 = .ok (.iload_n 2, 1) := by decide +kernel
theorem dX3_cask_14 : decode cX3_cask 14 = .ok (.iconst 0, 1) := by decide +kernel
theorem dX3_cask_15 : decode cX3_cask 15 = .ok (.bipush 15, 2) := by decide +kernel
theorem dX3_cask_17 : decode cX3_cask 17 = .ok (.invokestatic 70, 3) := by decide +kernel
theorem dX3_cask_20 : decode cX3_cask 20 = .ok (.ifCond .eq 12, 3) := by decide +kernel
theorem dX3_cask_23 : decode cX3_cask 23 = .ok (.aload_n 0, 1) := by decide +kernel
theorem dX3_cask_24 : decode cX3_cask 24 = .ok (.iload_n 1, 1) := by decide +kernel
theorem dX3_cask_25 : decode cX3_cask 25 = .ok (.iload_n 2, 1) := by decide +kernel
theorem dX3_cask_26 : decode cX3_cask 26 = .ok (.invokevirtual 137, 3) := by decide +kernel
theorem dX3_cask_29 : decode cX3_cask 29 = .ok (.goto 8, 3) := by decide +kernel
theorem dX3_cask_32 : decode cX3_cask 32 = .ok (.aload_n 0, 1) := by decide +kernel
theorem dX3_cask_33 : decode cX3_cask 33 = .ok (.iconst 1, 1) := by decide +kernel
theorem dX3_cask_34 : decode cX3_cask 34 = .ok (.invokevirtual 74, 3) := by decide +kernel
theorem dX3_cask_37 : decode cX3_cask 37 = .ok (.ireturn, 1) := by decide +kernel
set_option maxRecDepth 20000 in
theorem ggX3_beginFilling_X3_all : GoodIn wsX3_beginFilling wsX3_all := goodIn_r _ [6, 7, 8, 9, 10, 11, 12, 13, 14, 15, 16, 17, 18, 19, 20, 21, 22, 23, 24, 25, 26, 27, 28, 29, 30, 31, 32] (by decide +kernel) (by decide +kernel)
set_option maxRecDepth 20000 in
theorem gX3_beginFilling_X3_all : GoodIn wsX3_beginFilling (wsV RX3 122 RX3 yX3_all wsX3_all) := goodIn_app (goodIn_of _ (by decide +kernel)) ggX3_beginFilling_X3_all
theorem dX3_beginFilling_0 : decode cX3_beginFilling 0 = .ok (.aload_n 0, 1) := by decide +kernel
theorem dX3_beginFilling_1 : decode cX3_beginFilling 1 = .ok (.getfield 48, 3) := by decide +kernel
theorem dX3_beginFilling_4 : decode cX3_beginFilling 4 = .ok (.iload_n 1, 1) := by decide +kernel
theorem dX3_beginFilling_5 : decode cX3_beginFilling 5 = .ok (.dup2, 1) := by decide +kernel
theorem dX3_beginFilling_6 : decode cX3_beginFilling 6 = .ok (.iaload, 1) := by decide +kernel
theorem dX3_beginFilling_7 : decode cX3_beginFilling 7 = .ok (.aload_n 0, 1) := by decide +kernel
theorem dX3_beginFilling_8 : decode cX3_beginFilling 8 = .ok (.iload_n 1, 1) := by decide +kernel
theorem dX3_beginFilling_9 : decode cX3_beginFilling 9 = .ok (.invokevirtual 122, 3) := by decide +kernel
theorem dX3_beginFilling_12 : decode cX3_beginFilling 12 = .ok (.ifCond .ne 7, 3) := by decide +kernel
theorem dX3_beginFilling_15 : decode cX3_beginFilling 15 = .ok (.iconst 1, 1) := by decide +kernel
theorem dX3_beginFilling_16 : decode cX3_beginFilling 16 = .ok (.goto 4, 3) := by decide +kernel
theorem dX3_beginFilling_19 : decode cX3_beginFilling 19 = .ok (.iconst 0, 1) := by decide +kernel
theorem dX3_beginFilling_20 : decode cX3_beginFilling 20 = .ok (.iadd, 1) := by decide +kernel
theorem dX3_beginFilling_21 : decode cX3_beginFilling 21 = .ok (.iastore, 1) := by decide +kernel
theorem dX3_beginFilling_22 : decode cX3_beginFilling 22 = .ok (.return_, 1) := by decide +kernel
set_option maxRecDepth 20000 in
theorem ggX3_fill_X3_isCask : GoodIn wsX3_fill wsX3_isCask := goodIn_r _ [11, 12, 13, 14, 10, 15, 29, 30, 31, 32, 33, 34, 35, 36, 37, 38, 39, 40, 41, 42, 43, 44, 45, 46, 47, 48, 49, 50, 51, 52, 53] (by decide +kernel) (by decide +kernel)
set_option maxRecDepth 20000 in
theorem gX3_fill_X3_isCask : GoodIn wsX3_fill (wsV RX3 116 RX3 yX3_isCask wsX3_isCask) := goodIn_app (goodIn_of _ (by decide +kernel)) ggX3_fill_X3_isCask
set_option maxRecDepth 20000 in
theorem ggX3_fill_X3_no : GoodIn wsX3_fill wsX3_no := goodIn_r _ [19, 1, 29, 30, 31, 32, 33, 34, 35, 36, 37, 38, 39, 40, 41, 42, 43, 44, 45, 46, 47, 48, 49, 50, 51, 52, 53] (by decide +kernel) (by decide +kernel)
set_option maxRecDepth 20000 in
theorem gX3_fill_X3_no : GoodIn wsX3_fill (wsV RX3 74 RX3 yX3_no wsX3_no) := goodIn_app (goodIn_of _ (by decide +kernel)) ggX3_fill_X3_no
set_option maxRecDepth 20000 in
theorem ggX3_fill_X3_isIn : GoodIn wsX3_fill wsX3_isIn := goodIn_r _ [15] (by decide +kernel) (by decide +kernel)
set_option maxRecDepth 20000 in
theorem gX3_fill_X3_isIn : GoodIn wsX3_fill (va_wsS RX3 70 yX3_isIn wsX3_isIn) := goodIn_app (goodIn_of _ (by decide +kernel)) ggX3_fill_X3_isIn
set_option maxRecDepth 20000 in
theorem ggX3_fill_X3_all : GoodIn wsX3_fill wsX3_all := goodIn_r _ [23, 6, 29, 30, 31, 32, 33, 34, 35, 36, 37, 38, 39, 40, 41, 42, 43, 44, 45, 46, 47, 48, 49, 50, 51, 52, 53] (by decide +kernel) (by decide +kernel)
set_option maxRecDepth 20000 in
theorem gX3_fill_X3_all : GoodIn wsX3_fill (wsV RX3 122 RX3 yX3_all wsX3_all) := goodIn_app (goodIn_of _ (by decide +kernel)) ggX3_fill_X3_all
set_option maxRecDepth 20000 in
theorem ggX3_fill_X3_beginFilling : GoodIn wsX3_fill wsX3_beginFilling := goodIn_r _ [27, 28, 20, 21, 22, 10, 23, 6, 29, 30, 31, 32, 33, 34, 35, 36, 37, 38, 39, 40, 41, 42, 43, 44, 45, 46, 47, 48, 49, 50, 51, 52, 53] (by decide +kernel) (by decide +kernel)
set_option maxRecDepth 20000 in
theorem gX3_fill_X3_beginFilling : GoodIn wsX3_fill (wsV RX3 140 RX3 yX3_beginFilling wsX3_beginFilling) := goodIn_app (goodIn_of _ (by decide +kernel)) ggX3_fill_X3_beginFilling
theorem dX3_fill_0 : decode cX3_fill 0 = .ok (.aload_n 0, 1) := by decide +kernel
theorem dX3_fill_1 : decode cX3_fill 1 = .ok (.iconst 0, 1) := by decide +kernel
theorem dX3_fill_2 : decode cX3_fill 2 = .ok (.putfield 67, 3) := by decide +kernel
theorem dX3_fill_5 : decode cX3_fill 5 = .ok (.aload_n 0, 1) := by decide +kernel
theorem dX3_fill_6 : decode cX3_fill 6 = .ok (.iload_n 1, 1) := by decide +kernel
theorem dX3_fill_7 : decode cX3_fill 7 = .ok (.invokevirtual 116, 3) := by decide +kernel
theorem dX3_fill_10 : decode cX3_fill 10 = .ok (.ifCond .ne 9, 3) := by decide +kernel
theorem dX3_fill_13 : decode cX3_fill 13 = .ok (.aload_n 0, 1) := by decide +kernel
theorem dX3_fill_14 : decode cX3_fill 14 = .ok (.iconst 1, 1) := by decide +kernel
theorem dX3_fill_15 : decode cX3_fill 15 = .ok (.invokevirtual 74, 3) := by decide +kernel
theorem dX3_fill_18 : decode cX3_fill 18 = .ok (.ireturn, 1) := by decide +kernel
theorem dX3_fill_19 : decode cX3_fill 19 = .ok (.iload_n 2, 1) := by decide +kernel
theorem dX3_fill_20 : decode cX3_fill 20 = .ok (.iconst 0, 1) := by decide +kernel
theorem dX3_fill_21 : decode cX3_fill 21 = .ok (.iconst 3, 1) := by decide +kernel
theorem dX3_fill_22 : decode cX3_fill 22 = .ok (.invokestatic 70, 3) := by decide +kernel
theorem dX3_fill_25 : decode cX3_fill 25 = .ok (.ifCond .eq 13, 3) := by decide +kernel
theorem dX3_fill_28 : decode cX3_fill 28 = .ok (.iload_n 3, 1) := by decide +kernel
theorem dX3_fill_29 : decode cX3_fill 29 = .ok (.iconst 1, 1) := by decide +kernel
theorem dX3_fill_30 : decode cX3_fill 30 = .ok (.ldc 89, 2) := by decide +kernel
theorem dX3_fill_32 : decode cX3_fill 32 = .ok (.invokestatic 70, 3) := by decide +kernel
theorem dX3_fill_35 : decode cX3_fill 35 = .ok (.ifCond .ne 9, 3) := by decide +kernel
theorem dX3_fill_38 : decode cX3_fill 38 = .ok (.aload_n 0, 1) := by decide +kernel
theorem dX3_fill_39 : decode cX3_fill 39 = .ok (.iconst 2, 1) := by decide +kernel
theorem dX3_fill_40 : decode cX3_fill 40 = .ok (.invokevirtual 74, 3) := by decide +kernel
theorem dX3_fill_43 : decode cX3_fill 43 = .ok (.ireturn, 1) := by decide +kernel
theorem dX3_fill_44 : decode cX3_fill 44 = .ok (.aload_n 0, 1) := by decide +kernel
theorem dX3_fill_45 : decode cX3_fill 45 = .ok (.getfield 35, 3) := by decide +kernel
theorem dX3_fill_48 : decode cX3_fill 48 = .ok (.iload_n 1, 1) := by decide +kernel
theorem dX3_fill_49 : decode cX3_fill 49 = .ok (.baload, 1) := by decide +kernel
theorem dX3_fill_50 : decode cX3_fill 50 = .ok (.ifCond .eq 24, 3) := by decide +kernel
theorem dX3_fill_53 : decode cX3_fill 53 = .ok (.aload_n 0, 1) := by decide +kernel
theorem dX3_fill_54 : decode cX3_fill 54 = .ok (.iload_n 1, 1) := by decide +kernel
theorem dX3_fill_55 : decode cX3_fill 55 = .ok (.invokevirtual 122, 3) := by decide +kernel
theorem dX3_fill_58 : decode cX3_fill 58 = .ok (.iload_n 3, 1) := by decide +kernel
theorem dX3_fill_59 : decode cX3_fill 59 = .ok (.iadd, 1) := by decide +kernel
theorem dX3_fill_60 : decode cX3_fill 60 = .ok (.aload_n 0, 1) := by decide +kernel
theorem dX3_fill_61 : decode cX3_fill 61 = .ok (.getfield 26, 3) := by decide +kernel
theorem dX3_fill_64 : decode cX3_fill 64 = .ok (.aload_n 0, 1) := by decide +kernel
theorem dX3_fill_65 : decode cX3_fill 65 = .ok (.getfield 32, 3) := by decide +kernel
theorem dX3_fill_68 : decode cX3_fill 68 = .ok (.iload_n 1, 1) := by decide +kernel
theorem dX3_fill_69 : decode cX3_fill 69 = .ok (.iaload, 1) := by decide +kernel
theorem dX3_fill_70 : decode cX3_fill 70 = .ok (.iaload, 1) := by decide +kernel
theorem dX3_fill_71 : decode cX3_fill 71 = .ok (.if_icmp .le 9, 3) := by decide +kernel
theorem dX3_fill_74 : decode cX3_fill 74 = .ok (.aload_n 0, 1) := by decide +kernel
theorem dX3_fill_75 : decode cX3_fill 75 = .ok (.iconst 3, 1) := by decide +kernel
theorem dX3_fill_76 : decode cX3_fill 76 = .ok (.invokevirtual 74, 3) := by decide +kernel
theorem dX3_fill_79 : decode cX3_fill 79 = .ok (.ireturn, 1) := by decide +kernel
theorem dX3_fill_80 : decode cX3_fill 80 = .ok (.aload_n 0, 1) := by decide +kernel
theorem dX3_fill_81 : decode cX3_fill 81 = .ok (.iload_n 1, 1) := by decide +kernel
theorem dX3_fill_82 : decode cX3_fill 82 = .ok (.invokevirtual 140, 3) := by decide +kernel
theorem dX3_fill_85 : decode cX3_fill 85 = .ok (.aload_n 0, 1) := by decide +kernel
theorem dX3_fill_86 : decode cX3_fill 86 = .ok (.getfield 54, 3) := by decide +kernel
theorem dX3_fill_89 : decode cX3_fill 89 = .ok (.iconst 5, 1) := by decide +kernel
theorem dX3_fill_90 : decode cX3_fill 90 = .ok (.iload_n 1, 1) := by decide +kernel
theorem dX3_fill_91 : decode cX3_fill 91 = .ok (.imul, 1) := by decide +kernel
theorem dX3_fill_92 : decode cX3_fill 92 = .ok (.iload_n 2, 1) := by decide +kernel
theorem dX3_fill_93 : decode cX3_fill 93 = .ok (.iadd, 1) := by decide +kernel
theorem dX3_fill_94 : decode cX3_fill 94 = .ok (.dup2, 1) := by decide +kernel
theorem dX3_fill_95 : decode cX3_fill 95 = .ok (.iaload, 1) := by decide +kernel
theorem dX3_fill_96 : decode cX3_fill 96 = .ok (.iload_n 3, 1) := by decide +kernel
theorem dX3_fill_97 : decode cX3_fill 97 = .ok (.iadd, 1) := by decide +kernel
theorem dX3_fill_98 : decode cX3_fill 98 = .ok (.iastore, 1) := by decide +kernel
theorem dX3_fill_99 : decode cX3_fill 99 = .ok (.aload_n 0, 1) := by decide +kernel
theorem dX3_fill_100 : decode cX3_fill 100 = .ok (.iload_n 1, 1) := by decide +kernel
theorem dX3_fill_101 : decode cX3_fill 101 = .ok (.invokevirtual 122, 3) := by decide +kernel
theorem dX3_fill_104 : decode cX3_fill 104 = .ok (.ireturn, 1) := by decide +kernel
set_option maxRecDepth 20000 in
theorem ggX3_rack_X3_isCask : GoodIn wsX3_rack wsX3_isCask := goodIn_r _ [13, 14, 15, 16, 12, 17, 31, 32, 33, 34, 35, 36, 37, 38, 39, 40, 41, 42, 43, 44, 45, 46, 47, 48, 49, 50, 51, 52, 53, 54, 55] (by decide +kernel) (by decide +kernel)
set_option maxRecDepth 20000 in
theorem gX3_rack_X3_isCask : GoodIn wsX3_rack (wsV RX3 116 RX3 yX3_isCask wsX3_isCask) := goodIn_app (goodIn_of _ (by decide +kernel)) ggX3_rack_X3_isCask
set_option maxRecDepth 20000 in
theorem ggX3_rack_X3_no : GoodIn wsX3_rack wsX3_no := goodIn_r _ [21, 1, 31, 32, 33, 34, 35, 36, 37, 38, 39, 40, 41, 42, 43, 44, 45, 46, 47, 48, 49, 50, 51, 52, 53, 54, 55] (by decide +kernel) (by decide +kernel)
set_option maxRecDepth 20000 in
theorem gX3_rack_X3_no : GoodIn wsX3_rack (wsV RX3 74 RX3 yX3_no wsX3_no) := goodIn_app (goodIn_of _ (by decide +kernel)) ggX3_rack_X3_no
set_option maxRecDepth 20000 in
theorem ggX3_rack_X3_isIn : GoodIn wsX3_rack wsX3_isIn := goodIn_r _ [17] (by decide +kernel) (by decide +kernel)
set_option maxRecDepth 20000 in
theorem gX3_rack_X3_isIn : GoodIn wsX3_rack (va_wsS RX3 70 yX3_isIn wsX3_isIn) := goodIn_app (goodIn_of _ (by decide +kernel)) ggX3_rack_X3_isIn
set_option maxRecDepth 20000 in
theorem ggX3_rack_X3_all : GoodIn wsX3_rack wsX3_all := goodIn_r _ [25, 7, 31, 32, 33, 34, 35, 36, 37, 38, 39, 40, 41, 42, 43, 44, 45, 46, 47, 48, 49, 50, 51, 52, 53, 54, 55] (by decide +kernel) (by decide +kernel)
set_option maxRecDepth 20000 in
theorem gX3_rack_X3_all : GoodIn wsX3_rack (wsV RX3 122 RX3 yX3_all wsX3_all) := goodIn_app (goodIn_of _ (by decide +kernel)) ggX3_rack_X3_all
set_option maxRecDepth 20000 in
theorem ggX3_rack_X3_beginFilling : GoodIn wsX3_rack wsX3_beginFilling := goodIn_r _ [29, 30, 22, 23, 24, 12, 25, 7, 31, 32, 33, 34, 35, 36, 37, 38, 39, 40, 41, 42, 43, 44, 45, 46, 47, 48, 49, 50, 51, 52, 53, 54, 55] (by decide +kernel) (by decide +kernel)
set_option maxRecDepth 20000 in
theorem gX3_rack_X3_beginFilling : GoodIn wsX3_rack (wsV RX3 140 RX3 yX3_beginFilling wsX3_beginFilling) := goodIn_app (goodIn_of _ (by decide +kernel)) ggX3_rack_X3_beginFilling
theorem dX3_rack_0 : decode cX3_rack 0 = .ok (.aload_n 0, 1) := by decide +kernel
theorem dX3_rack_1 : decode cX3_rack 1 = .ok (.iconst 0, 1) := by decide +kernel
theorem dX3_rack_2 : decode cX3_rack 2 = .ok (.putfield 67, 3) := by decide +kernel
theorem dX3_rack_5 : decode cX3_rack 5 = .ok (.aload_n 0, 1) := by decide +kernel
theorem dX3_rack_6 : decode cX3_rack 6 = .ok (.iload_n 1, 1) := by decide +kernel
theorem dX3_rack_7 : decode cX3_rack 7 = .ok (.invokevirtual 116, 3) := by decide +kernel
theorem dX3_rack_10 : decode cX3_rack 10 = .ok (.ifCond .eq 16, 3) := by decide +kernel
theorem dX3_rack_13 : decode cX3_rack 13 = .ok (.iload_n 2, 1) := by decide +kernel
theorem dX3_rack_14 : decode cX3_rack 14 = .ok (.iconst (-1), 1) := by decide +kernel
theorem dX3_rack_15 : decode cX3_rack 15 = .ok (.if_icmp .eq 17, 3) := by decide +kernel
theorem dX3_rack_18 : decode cX3_rack 18 = .ok (.aload_n 0, 1) := by decide +kernel
theorem dX3_rack_19 : decode cX3_rack 19 = .ok (.iload_n 2, 1) := by decide +kernel
theorem dX3_rack_20 : decode cX3_rack 20 = .ok (.invokevirtual 116, 3) := by decide +kernel
theorem dX3_rack_23 : decode cX3_rack 23 = .ok (.ifCond .ne 9, 3) := by decide +kernel
theorem dX3_rack_26 : decode cX3_rack 26 = .ok (.aload_n 0, 1) := by decide +kernel
theorem dX3_rack_27 : decode cX3_rack 27 = .ok (.iconst 1, 1) := by decide +kernel
theorem dX3_rack_28 : decode cX3_rack 28 = .ok (.invokevirtual 74, 3) := by decide +kernel
theorem dX3_rack_31 : decode cX3_rack 31 = .ok (.ireturn, 1) := by decide +kernel
theorem dX3_rack_32 : decode cX3_rack 32 = .ok (.iload_n 1, 1) := by decide +kernel
theorem dX3_rack_33 : decode cX3_rack 33 = .ok (.iload_n 2, 1) := by decide +kernel
theorem dX3_rack_34 : decode cX3_rack 34 = .ok (.if_icmp .eq 13, 3) := by decide +kernel
theorem dX3_rack_37 : decode cX3_rack 37 = .ok (.iload_n 3, 1) := by decide +kernel
theorem dX3_rack_38 : decode cX3_rack 38 = .ok (.iconst 1, 1) := by decide +kernel
theorem dX3_rack_39 : decode cX3_rack 39 = .ok (.ldc 89, 2) := by decide +kernel
theorem dX3_rack_41 : decode cX3_rack 41 = .ok (.invokestatic 70, 3) := by decide +kernel
theorem dX3_rack_44 : decode cX3_rack 44 = .ok (.ifCond .ne 9, 3) := by decide +kernel
theorem dX3_rack_47 : decode cX3_rack 47 = .ok (.aload_n 0, 1) := by decide +kernel
theorem dX3_rack_48 : decode cX3_rack 48 = .ok (.iconst 2, 1) := by decide +kernel
theorem dX3_rack_49 : decode cX3_rack 49 = .ok (.invokevirtual 74, 3) := by decide +kernel
theorem dX3_rack_52 : decode cX3_rack 52 = .ok (.ireturn, 1) := by decide +kernel
theorem dX3_rack_53 : decode cX3_rack 53 = .ok (.aload_n 0, 1) := by decide +kernel
theorem dX3_rack_54 : decode cX3_rack 54 = .ok (.getfield 35, 3) := by decide +kernel
theorem dX3_rack_57 : decode cX3_rack 57 = .ok (.iload_n 1, 1) := by decide +kernel
theorem dX3_rack_58 : decode cX3_rack 58 = .ok (.baload, 1) := by decide +kernel
theorem dX3_rack_59 : decode cX3_rack 59 = .ok (.ifCond .eq 52, 3) := by decide +kernel
theorem dX3_rack_62 : decode cX3_rack 62 = .ok (.iload_n 2, 1) := by decide +kernel
theorem dX3_rack_63 : decode cX3_rack 63 = .ok (.iconst (-1), 1) := by decide +kernel
theorem dX3_rack_64 : decode cX3_rack 64 = .ok (.if_icmp .eq 12, 3) := by decide +kernel
theorem dX3_rack_67 : decode cX3_rack 67 = .ok (.aload_n 0, 1) := by decide +kernel
theorem dX3_rack_68 : decode cX3_rack 68 = .ok (.getfield 35, 3) := by decide +kernel
theorem dX3_rack_71 : decode cX3_rack 71 = .ok (.iload_n 2, 1) := by decide +kernel
theorem dX3_rack_72 : decode cX3_rack 72 = .ok (.baload, 1) := by decide +kernel
theorem dX3_rack_73 : decode cX3_rack 73 = .ok (.ifCond .eq 38, 3) := by decide +kernel
theorem dX3_rack_76 : decode cX3_rack 76 = .ok (.aload_n 0, 1) := by decide +kernel
theorem dX3_rack_77 : decode cX3_rack 77 = .ok (.iload_n 1, 1) := by decide +kernel
theorem dX3_rack_78 : decode cX3_rack 78 = .ok (.invokevirtual 122, 3) := by decide +kernel
theorem dX3_rack_81 : decode cX3_rack 81 = .ok (.iload_n 3, 1) := by decide +kernel
theorem dX3_rack_82 : decode cX3_rack 82 = .ok (.if_icmp .lt 29, 3) := by decide +kernel
theorem dX3_rack_85 : decode cX3_rack 85 = .ok (.iload_n 2, 1) := by decide +kernel
theorem dX3_rack_86 : decode cX3_rack 86 = .ok (.iconst (-1), 1) := by decide +kernel
theorem dX3_rack_87 : decode cX3_rack 87 = .ok (.if_icmp .eq 30, 3) := by decide +kernel
theorem dX3_rack_90 : decode cX3_rack 90 = .ok (.aload_n 0, 1) := by decide +kernel
theorem dX3_rack_91 : decode cX3_rack 91 = .ok (.iload_n 2, 1) := by decide +kernel
theorem dX3_rack_92 : decode cX3_rack 92 = .ok (.invokevirtual 122, 3) := by decide +kernel
theorem dX3_rack_95 : decode cX3_rack 95 = .ok (.iload_n 3, 1) := by decide +kernel
theorem dX3_rack_96 : decode cX3_rack 96 = .ok (.iadd, 1) := by decide +kernel
theorem dX3_rack_97 : decode cX3_rack 97 = .ok (.aload_n 0, 1) := by decide +kernel
theorem dX3_rack_98 : decode cX3_rack 98 = .ok (.getfield 26, 3) := by decide +kernel
theorem dX3_rack_101 : decode cX3_rack 101 = .ok (.aload_n 0, 1) := by decide +kernel
theorem dX3_rack_102 : decode cX3_rack 102 = .ok (.getfield 32, 3) := by decide +kernel
theorem dX3_rack_105 : decode cX3_rack 105 = .ok (.iload_n 2, 1) := by decide +kernel
theorem dX3_rack_106 : decode cX3_rack 106 = .ok (.iaload, 1) := by decide +kernel
theorem dX3_rack_107 : decode cX3_rack 107 = .ok (.iaload, 1) := by decide +kernel
theorem dX3_rack_108 : decode cX3_rack 108 = .ok (.if_icmp .le 9, 3) := by decide +kernel
theorem dX3_rack_111 : decode cX3_rack 111 = .ok (.aload_n 0, 1) := by decide +kernel
theorem dX3_rack_112 : decode cX3_rack 112 = .ok (.iconst 3, 1) := by decide +kernel
theorem dX3_rack_113 : decode cX3_rack 113 = .ok (.invokevirtual 74, 3) := by decide +kernel
theorem dX3_rack_116 : decode cX3_rack 116 = .ok (.ireturn, 1) := by decide +kernel
theorem dX3_rack_117 : decode cX3_rack 117 = .ok (.aload_n 0, 1) := by decide +kernel
theorem dX3_rack_118 : decode cX3_rack 118 = .ok (.iload_n 1, 1) := by decide +kernel
theorem dX3_rack_119 : decode cX3_rack 119 = .ok (.invokevirtual 122, 3) := by decide +kernel
theorem dX3_rack_122 : decode cX3_rack 122 = .ok (.i2l, 1) := by decide +kernel
theorem dX3_rack_123 : decode cX3_rack 123 = .ok (.lstore 4, 2) := by decide +kernel
theorem dX3_rack_125 : decode cX3_rack 125 = .ok (.iconst 5, 1) := by decide +kernel
theorem dX3_rack_126 : decode cX3_rack 126 = .ok (.newarray .int, 2) := by decide +kernel
theorem dX3_rack_128 : decode cX3_rack 128 = .ok (.astore 6, 2) := by decide +kernel
theorem dX3_rack_130 : decode cX3_rack 130 = .ok (.iload_n 3, 1) := by decide +kernel
theorem dX3_rack_131 : decode cX3_rack 131 = .ok (.istore 7, 2) := by decide +kernel
theorem dX3_rack_133 : decode cX3_rack 133 = .ok (.iconst 0, 1) := by decide +kernel
theorem dX3_rack_134 : decode cX3_rack 134 = .ok (.istore 8, 2) := by decide +kernel
theorem dX3_rack_136 : decode cX3_rack 136 = .ok (.iload 8, 2) := by decide +kernel
theorem dX3_rack_138 : decode cX3_rack 138 = .ok (.iconst 5, 1) := by decide +kernel
theorem dX3_rack_139 : decode cX3_rack 139 = .ok (.if_icmp .ge 43, 3) := by decide +kernel
theorem dX3_rack_142 : decode cX3_rack 142 = .ok (.aload 6, 2) := by decide +kernel
theorem dX3_rack_144 : decode cX3_rack 144 = .ok (.iload 8, 2) := by decide +kernel
theorem dX3_rack_146 : decode cX3_rack 146 = .ok (.aload_n 0, 1) := by decide +kernel
theorem dX3_rack_147 : decode cX3_rack 147 = .ok (.getfield 54, 3) := by decide +kernel
theorem dX3_rack_150 : decode cX3_rack 150 = .ok (.iconst 5, 1) := by decide +kernel
theorem dX3_rack_151 : decode cX3_rack 151 = .ok (.iload_n 1, 1) := by decide +kernel
theorem dX3_rack_152 : decode cX3_rack 152 = .ok (.imul, 1) := by decide +kernel
theorem dX3_rack_153 : decode cX3_rack 153 = .ok (.iload 8, 2) := by decide +kernel
theorem dX3_rack_155 : decode cX3_rack 155 = .ok (.iadd, 1) := by decide +kernel
theorem dX3_rack_156 : decode cX3_rack 156 = .ok (.iaload, 1) := by decide +kernel
theorem dX3_rack_157 : decode cX3_rack 157 = .ok (.i2l, 1) := by decide +kernel
theorem dX3_rack_158 : decode cX3_rack 158 = .ok (.iload_n 3, 1) := by decide +kernel
theorem dX3_rack_159 : decode cX3_rack 159 = .ok (.i2l, 1) := by decide +kernel
theorem dX3_rack_160 : decode cX3_rack 160 = .ok (.lmul, 1) := by decide +kernel
theorem dX3_rack_161 : decode cX3_rack 161 = .ok (.lload 4, 2) := by decide +kernel
theorem dX3_rack_163 : decode cX3_rack 163 = .ok (.ldiv, 1) := by decide +kernel
theorem dX3_rack_164 : decode cX3_rack 164 = .ok (.l2i, 1) := by decide +kernel
theorem dX3_rack_165 : decode cX3_rack 165 = .ok (.iastore, 1) := by decide +kernel
theorem dX3_rack_166 : decode cX3_rack 166 = .ok (.iload 7, 2) := by decide +kernel
theorem dX3_rack_168 : decode cX3_rack 168 = .ok (.aload 6, 2) := by decide +kernel
theorem dX3_rack_170 : decode cX3_rack 170 = .ok (.iload 8, 2) := by decide +kernel
theorem dX3_rack_172 : decode cX3_rack 172 = .ok (.iaload, 1) := by decide +kernel
theorem dX3_rack_173 : decode cX3_rack 173 = .ok (.isub, 1) := by decide +kernel
theorem dX3_rack_174 : decode cX3_rack 174 = .ok (.istore 7, 2) := by decide +kernel
theorem dX3_rack_176 : decode cX3_rack 176 = .ok (.iinc 8 1, 3) := by decide +kernel
theorem dX3_rack_179 : decode cX3_rack 179 = .ok (.goto (-43), 3) := by decide +kernel
theorem dX3_rack_182 : decode cX3_rack 182 = .ok (.iload 7, 2) := by decide +kernel
theorem dX3_rack_184 : decode cX3_rack 184 = .ok (.ifCond .le 60, 3) := by decide +kernel
theorem dX3_rack_187 : decode cX3_rack 187 = .ok (.iconst 0, 1) := by decide +kernel
theorem dX3_rack_188 : decode cX3_rack 188 = .ok (.istore 8, 2) := by decide +kernel
theorem dX3_rack_190 : decode cX3_rack 190 = .ok (.iload 8, 2) := by decide +kernel
theorem dX3_rack_192 : decode cX3_rack 192 = .ok (.iconst 5, 1) := by decide +kernel
theorem dX3_rack_193 : decode cX3_rack 193 = .ok (.if_icmp .ge 48, 3) := by decide +kernel
theorem dX3_rack_196 : decode cX3_rack 196 = .ok (.iload 7, 2) := by decide +kernel
theorem dX3_rack_198 : decode cX3_rack 198 = .ok (.ifCond .le 43, 3) := by decide +kernel
theorem dX3_rack_201 : decode cX3_rack 201 = .ok (.aload_n 0, 1) := by decide +kernel
theorem dX3_rack_202 : decode cX3_rack 202 = .ok (.getfield 54, 3) := by decide +kernel
theorem dX3_rack_205 : decode cX3_rack 205 = .ok (.iconst 5, 1) := by decide +kernel
theorem dX3_rack_206 : decode cX3_rack 206 = .ok (.iload_n 1, 1) := by decide +kernel
theorem dX3_rack_207 : decode cX3_rack 207 = .ok (.imul, 1) := by decide +kernel
theorem dX3_rack_208 : decode cX3_rack 208 = .ok (.iload 8, 2) := by decide +kernel
theorem dX3_rack_210 : decode cX3_rack 210 = .ok (.iadd, 1) := by decide +kernel
theorem dX3_rack_211 : decode cX3_rack 211 = .ok (.iaload, 1) := by decide +kernel
theorem dX3_rack_212 : decode cX3_rack 212 = .ok (.aload 6, 2) := by decide +kernel
theorem dX3_rack_214 : decode cX3_rack 214 = .ok (.iload 8, 2) := by decide +kernel
theorem dX3_rack_216 : decode cX3_rack 216 = .ok (.iaload, 1) := by decide +kernel
theorem dX3_rack_217 : decode cX3_rack 217 = .ok (.if_icmp .ne 6, 3) := by decide +kernel
theorem dX3_rack_220 : decode cX3_rack 220 = .ok (.goto 15, 3) := by decide +kernel
theorem dX3_rack_223 : decode cX3_rack 223 = .ok (.aload 6, 2) := by decide +kernel
theorem dX3_rack_225 : decode cX3_rack 225 = .ok (.iload 8, 2) := by decide +kernel
theorem dX3_rack_227 : decode cX3_rack 227 = .ok (.dup2, 1) := by decide +kernel
theorem dX3_rack_228 : decode cX3_rack 228 = .ok (.iaload, 1) := by decide +kernel
theorem dX3_rack_229 : decode cX3_rack 229 = .ok (.iconst 1, 1) := by decide +kernel
theorem dX3_rack_230 : decode cX3_rack 230 = .ok (.iadd, 1) := by decide +kernel
theorem dX3_rack_231 : decode cX3_rack 231 = .ok (.iastore, 1) := by decide +kernel
theorem dX3_rack_232 : decode cX3_rack 232 = .ok (.iinc 7 (-1), 3) := by decide +kernel
theorem dX3_rack_235 : decode cX3_rack 235 = .ok (.iinc 8 1, 3) := by decide +kernel
theorem dX3_rack_238 : decode cX3_rack 238 = .ok (.goto (-48), 3) := by decide +kernel
theorem dX3_rack_241 : decode cX3_rack 241 = .ok (.goto (-59), 3) := by decide +kernel
theorem dX3_rack_244 : decode cX3_rack 244 = .ok (.aload_n 0, 1) := by decide +kernel
theorem dX3_rack_245 : decode cX3_rack 245 = .ok (.getfield 57, 3) := by decide +kernel
theorem dX3_rack_248 : decode cX3_rack 248 = .ok (.iload_n 1, 1) := by decide +kernel
theorem dX3_rack_249 : decode cX3_rack 249 = .ok (.iaload, 1) := by decide +kernel
theorem dX3_rack_250 : decode cX3_rack 250 = .ok (.i2l, 1) := by decide +kernel
theorem dX3_rack_251 : decode cX3_rack 251 = .ok (.iload_n 3, 1) := by decide +kernel
theorem dX3_rack_252 : decode cX3_rack 252 = .ok (.i2l, 1) := by decide +kernel
theorem dX3_rack_253 : decode cX3_rack 253 = .ok (.lmul, 1) := by decide +kernel
theorem dX3_rack_254 : decode cX3_rack 254 = .ok (.lload 4, 2) := by decide +kernel
theorem dX3_rack_256 : decode cX3_rack 256 = .ok (.ldiv, 1) := by decide +kernel
theorem dX3_rack_257 : decode cX3_rack 257 = .ok (.l2i, 1) := by decide +kernel
theorem dX3_rack_258 : decode cX3_rack 258 = .ok (.istore 8, 2) := by decide +kernel
theorem dX3_rack_260 : decode cX3_rack 260 = .ok (.iload_n 2, 1) := by decide +kernel
theorem dX3_rack_261 : decode cX3_rack 261 = .ok (.iconst (-1), 1) := by decide +kernel
theorem dX3_rack_262 : decode cX3_rack 262 = .ok (.if_icmp .eq 8, 3) := by decide +kernel
theorem dX3_rack_265 : decode cX3_rack 265 = .ok (.aload_n 0, 1) := by decide +kernel
theorem dX3_rack_266 : decode cX3_rack 266 = .ok (.iload_n 2, 1) := by decide +kernel
theorem dX3_rack_267 : decode cX3_rack 267 = .ok (.invokevirtual 140, 3) := by decide +kernel
theorem dX3_rack_270 : decode cX3_rack 270 = .ok (.iconst 0, 1) := by decide +kernel
theorem dX3_rack_271 : decode cX3_rack 271 = .ok (.istore 9, 2) := by decide +kernel
theorem dX3_rack_273 : decode cX3_rack 273 = .ok (.iload 9, 2) := by decide +kernel
theorem dX3_rack_275 : decode cX3_rack 275 = .ok (.iconst 5, 1) := by decide +kernel
theorem dX3_rack_276 : decode cX3_rack 276 = .ok (.if_icmp .ge 52, 3) := by decide +kernel
theorem dX3_rack_279 : decode cX3_rack 279 = .ok (.aload_n 0, 1) := by decide +kernel
theorem dX3_rack_280 : decode cX3_rack 280 = .ok (.getfield 54, 3) := by decide +kernel
theorem dX3_rack_283 : decode cX3_rack 283 = .ok (.iconst 5, 1) := by decide +kernel
theorem dX3_rack_284 : decode cX3_rack 284 = .ok (.iload_n 1, 1) := by decide +kernel
theorem dX3_rack_285 : decode cX3_rack 285 = .ok (.imul, 1) := by decide +kernel
theorem dX3_rack_286 : decode cX3_rack 286 = .ok (.iload 9, 2) := by decide +kernel
theorem dX3_rack_288 : decode cX3_rack 288 = .ok (.iadd, 1) := by decide +kernel
theorem dX3_rack_289 : decode cX3_rack 289 = .ok (.dup2, 1) := by decide +kernel
theorem dX3_rack_290 : decode cX3_rack 290 = .ok (.iaload, 1) := by decide +kernel
theorem dX3_rack_291 : decode cX3_rack 291 = .ok (.aload 6, 2) := by decide +kernel
theorem dX3_rack_293 : decode cX3_rack 293 = .ok (.iload 9, 2) := by decide +kernel
theorem dX3_rack_295 : decode cX3_rack 295 = .ok (.iaload, 1) := by decide +kernel
theorem dX3_rack_296 : decode cX3_rack 296 = .ok (.isub, 1) := by decide +kernel
theorem dX3_rack_297 : decode cX3_rack 297 = .ok (.iastore, 1) := by decide +kernel
theorem dX3_rack_298 : decode cX3_rack 298 = .ok (.iload_n 2, 1) := by decide +kernel
theorem dX3_rack_299 : decode cX3_rack 299 = .ok (.iconst (-1), 1) := by decide +kernel
theorem dX3_rack_300 : decode cX3_rack 300 = .ok (.if_icmp .eq 22, 3) := by decide +kernel
theorem dX3_rack_303 : decode cX3_rack 303 = .ok (.aload_n 0, 1) := by decide +kernel
theorem dX3_rack_304 : decode cX3_rack 304 = .ok (.getfield 54, 3) := by decide +kernel
theorem dX3_rack_307 : decode cX3_rack 307 = .ok (.iconst 5, 1) := by decide +kernel
theorem dX3_rack_308 : decode cX3_rack 308 = .ok (.iload_n 2, 1) := by decide +kernel
theorem dX3_rack_309 : decode cX3_rack 309 = .ok (.imul, 1) := by decide +kernel
theorem dX3_rack_310 : decode cX3_rack 310 = .ok (.iload 9, 2) := by decide +kernel
theorem dX3_rack_312 : decode cX3_rack 312 = .ok (.iadd, 1) := by decide +kernel
theorem dX3_rack_313 : decode cX3_rack 313 = .ok (.dup2, 1) := by decide +kernel
theorem dX3_rack_314 : decode cX3_rack 314 = .ok (.iaload, 1) := by decide +kernel
theorem dX3_rack_315 : decode cX3_rack 315 = .ok (.aload 6, 2) := by decide +kernel
theorem dX3_rack_317 : decode cX3_rack 317 = .ok (.iload 9, 2) := by decide +kernel
theorem dX3_rack_319 : decode cX3_rack 319 = .ok (.iaload, 1) := by decide +kernel
theorem dX3_rack_320 : decode cX3_rack 320 = .ok (.iadd, 1) := by decide +kernel
theorem dX3_rack_321 : decode cX3_rack 321 = .ok (.iastore, 1) := by decide +kernel
theorem dX3_rack_322 : decode cX3_rack 322 = .ok (.iinc 9 1, 3) := by decide +kernel
theorem dX3_rack_325 : decode cX3_rack 325 = .ok (.goto (-52), 3) := by decide +kernel
theorem dX3_rack_328 : decode cX3_rack 328 = .ok (.aload_n 0, 1) := by decide +kernel
theorem dX3_rack_329 : decode cX3_rack 329 = .ok (.getfield 57, 3) := by decide +kernel
theorem dX3_rack_332 : decode cX3_rack 332 = .ok (.iload_n 1, 1) := by decide +kernel
theorem dX3_rack_333 : decode cX3_rack 333 = .ok (.dup2, 1) := by decide +kernel
theorem dX3_rack_334 : decode cX3_rack 334 = .ok (.iaload, 1) := by decide +kernel
theorem dX3_rack_335 : decode cX3_rack 335 = .ok (.iload 8, 2) := by decide +kernel
theorem dX3_rack_337 : decode cX3_rack 337 = .ok (.isub, 1) := by decide +kernel
theorem dX3_rack_338 : decode cX3_rack 338 = .ok (.iastore, 1) := by decide +kernel
theorem dX3_rack_339 : decode cX3_rack 339 = .ok (.iload_n 2, 1) := by decide +kernel
theorem dX3_rack_340 : decode cX3_rack 340 = .ok (.iconst (-1), 1) := by decide +kernel
theorem dX3_rack_341 : decode cX3_rack 341 = .ok (.if_icmp .eq 14, 3) := by decide +kernel
theorem dX3_rack_344 : decode cX3_rack 344 = .ok (.aload_n 0, 1) := by decide +kernel
theorem dX3_rack_345 : decode cX3_rack 345 = .ok (.getfield 57, 3) := by decide +kernel
theorem dX3_rack_348 : decode cX3_rack 348 = .ok (.iload_n 2, 1) := by decide +kernel
theorem dX3_rack_349 : decode cX3_rack 349 = .ok (.dup2, 1) := by decide +kernel
theorem dX3_rack_350 : decode cX3_rack 350 = .ok (.iaload, 1) := by decide +kernel
theorem dX3_rack_351 : decode cX3_rack 351 = .ok (.iload 8, 2) := by decide +kernel
theorem dX3_rack_353 : decode cX3_rack 353 = .ok (.iadd, 1) := by decide +kernel
theorem dX3_rack_354 : decode cX3_rack 354 = .ok (.iastore, 1) := by decide +kernel
theorem dX3_rack_355 : decode cX3_rack 355 = .ok (.aload_n 0, 1) := by decide +kernel
theorem dX3_rack_356 : decode cX3_rack 356 = .ok (.iload_n 1, 1) := by decide +kernel
theorem dX3_rack_357 : decode cX3_rack 357 = .ok (.invokevirtual 122, 3) := by decide +kernel
theorem dX3_rack_360 : decode cX3_rack 360 = .ok (.ireturn, 1) := by decide +kernel
set_option maxRecDepth 20000 in
theorem ggX3_setWarmth_X3_isIn : GoodIn wsX3_setWarmth wsX3_isIn := goodIn_r _ [6] (by decide +kernel) (by decide +kernel)
set_option maxRecDepth 20000 in
theorem gX3_setWarmth_X3_isIn : GoodIn wsX3_setWarmth (va_wsS RX3 70 yX3_isIn wsX3_isIn) := goodIn_app (goodIn_of _ (by decide +kernel)) ggX3_setWarmth_X3_isIn
set_option maxRecDepth 20000 in
theorem ggX3_setWarmth_X3_no : GoodIn wsX3_setWarmth wsX3_no := goodIn_r _ [10, 1, 11, 12, 13, 14, 15, 16, 17, 18, 19, 20, 21, 22, 23, 24, 25, 26, 27, 28, 29, 30, 31, 32, 33, 34, 35] (by decide +kernel) (by decide +kernel)
set_option maxRecDepth 20000 in
theorem gX3_setWarmth_X3_no : GoodIn wsX3_setWarmth (wsV RX3 74 RX3 yX3_no wsX3_no) := goodIn_app (goodIn_of _ (by decide +kernel)) ggX3_setWarmth_X3_no
theorem dX3_setWarmth_0 : decode cX3_setWarmth 0 = .ok (.aload_n 0, 1) := by decide +kernel
theorem dX3_setWarmth_1 : decode cX3_setWarmth 1 = .ok (.iconst 0, 1) := by decide +kernel
theorem dX3_setWarmth_2 : decode cX3_setWarmth 2 = .ok (.putfield 67, 3) := by decide +kernel
theorem dX3_setWarmth_5 : decode cX3_setWarmth 5 = .ok (.iload_n 1, 1) := by decide +kernel
theorem dX3_setWarmth_6 : decode cX3_setWarmth 6 = .ok (.iconst 0, 1) := by decide +kernel
theorem dX3_setWarmth_7 : decode cX3_setWarmth 7 = .ok (.bipush 9, 2) := by decide +kernel
theorem dX3_setWarmth_9 : decode cX3_setWarmth 9 = .ok (.invokestatic 70, 3) := by decide +kernel
theorem dX3_setWarmth_12 : decode cX3_setWarmth 12 = .ok (.ifCond .ne 9, 3) := by decide +kernel
theorem dX3_setWarmth_15 : decode cX3_setWarmth 15 = .ok (.aload_n 0, 1) := by decide +kernel
theorem dX3_setWarmth_16 : decode cX3_setWarmth 16 = .ok (.iconst 1, 1) := by decide +kernel
theorem dX3_setWarmth_17 : decode cX3_setWarmth 17 = .ok (.invokevirtual 74, 3) := by decide +kernel
theorem dX3_setWarmth_20 : decode cX3_setWarmth 20 = .ok (.ireturn, 1) := by decide +kernel
theorem dX3_setWarmth_21 : decode cX3_setWarmth 21 = .ok (.aload_n 0, 1) := by decide +kernel
theorem dX3_setWarmth_22 : decode cX3_setWarmth 22 = .ok (.getfield 7, 3) := by decide +kernel
theorem dX3_setWarmth_25 : decode cX3_setWarmth 25 = .ok (.istore_n 2, 1) := by decide +kernel
theorem dX3_setWarmth_26 : decode cX3_setWarmth 26 = .ok (.aload_n 0, 1) := by decide +kernel
theorem dX3_setWarmth_27 : decode cX3_setWarmth 27 = .ok (.iload_n 1, 1) := by decide +kernel
theorem dX3_setWarmth_28 : decode cX3_setWarmth 28 = .ok (.putfield 7, 3) := by decide +kernel
theorem dX3_setWarmth_31 : decode cX3_setWarmth 31 = .ok (.iload_n 2, 1) := by decide +kernel
theorem dX3_setWarmth_32 : decode cX3_setWarmth 32 = .ok (.ireturn, 1) := by decide +kernel
set_option maxRecDepth 20000 in
theorem ggX3_pass_X3_all : GoodIn wsX3_pass wsX3_all := goodIn_r _ [28, 14, 44, 45, 46, 47, 48, 49, 50, 51, 52, 53, 54, 55, 56, 57, 58, 59, 60, 61, 62, 63, 64, 65, 66, 67, 68] (by decide +kernel) (by decide +kernel)
set_option maxRecDepth 20000 in
theorem gX3_pass_X3_all : GoodIn wsX3_pass (wsV RX3 122 RX3 yX3_all wsX3_all) := goodIn_app (goodIn_of _ (by decide +kernel)) ggX3_pass_X3_all
set_option maxRecDepth 20000 in
theorem ggX3_pass_X3_leak : GoodIn wsX3_pass wsX3_leak := goodIn_r _ [32, 33, 7, 3, 4, 5, 6, 34, 35, 36, 27, 37, 23, 38, 39, 40, 41, 42, 43, 9, 44, 45, 46, 47, 48, 49, 50, 51, 52, 53, 54, 55, 56, 57, 58, 59, 60, 61, 62, 63, 64, 65, 66, 67, 68] (by decide +kernel) (by decide +kernel)
set_option maxRecDepth 20000 in
theorem gX3_pass_X3_leak : GoodIn wsX3_pass (wsV RX3 131 RX3 yX3_leak wsX3_leak) := goodIn_app (goodIn_of _ (by decide +kernel)) ggX3_pass_X3_leak
set_option maxRecDepth 20000 in
theorem ggX3_pass_X3_hoopsOf : GoodIn wsX3_pass wsX3_hoopsOf := goodIn_r _ [41, 42, 43, 9, 44, 45, 46, 47, 48, 49, 50, 51, 52, 53, 54, 55, 56, 57, 58, 59, 60, 61, 62, 63, 64, 65, 66, 67, 68] (by decide +kernel) (by decide +kernel)
set_option maxRecDepth 20000 in
theorem gX3_pass_X3_hoopsOf : GoodIn wsX3_pass (wsV RX3 113 RX3 yX3_hoopsOf wsX3_hoopsOf) := goodIn_app (goodIn_of _ (by decide +kernel)) ggX3_pass_X3_hoopsOf
theorem dX3_pass_0 : decode cX3_pass 0 = .ok (.aload_n 0, 1) := by decide +kernel
theorem dX3_pass_1 : decode cX3_pass 1 = .ok (.iload_n 1, 1) := by decide +kernel
theorem dX3_pass_2 : decode cX3_pass 2 = .ok (.invokevirtual 122, 3) := by decide +kernel
theorem dX3_pass_5 : decode cX3_pass 5 = .ok (.istore_n 3, 1) := by decide +kernel
theorem dX3_pass_6 : decode cX3_pass 6 = .ok (.iload_n 3, 1) := by decide +kernel
theorem dX3_pass_7 : decode cX3_pass 7 = .ok (.ifCond .le 30, 3) := by decide +kernel
theorem dX3_pass_10 : decode cX3_pass 10 = .ok (.aload_n 0, 1) := by decide +kernel
theorem dX3_pass_11 : decode cX3_pass 11 = .ok (.getfield 57, 3) := by decide +kernel
theorem dX3_pass_14 : decode cX3_pass 14 = .ok (.iload_n 1, 1) := by decide +kernel
theorem dX3_pass_15 : decode cX3_pass 15 = .ok (.dup2, 1) := by decide +kernel
theorem dX3_pass_16 : decode cX3_pass 16 = .ok (.iaload, 1) := by decide +kernel
theorem dX3_pass_17 : decode cX3_pass 17 = .ok (.iload_n 3, 1) := by decide +kernel
theorem dX3_pass_18 : decode cX3_pass 18 = .ok (.bipush 100, 2) := by decide +kernel
theorem dX3_pass_20 : decode cX3_pass 20 = .ok (.idiv, 1) := by decide +kernel
theorem dX3_pass_21 : decode cX3_pass 21 = .ok (.iconst 0, 1) := by decide +kernel
theorem dX3_pass_22 : decode cX3_pass 22 = .ok (.bipush 8, 2) := by decide +kernel
theorem dX3_pass_24 : decode cX3_pass 24 = .ok (.aload_n 0, 1) := by decide +kernel
theorem dX3_pass_25 : decode cX3_pass 25 = .ok (.getfield 48, 3) := by decide +kernel
theorem dX3_pass_28 : decode cX3_pass 28 = .ok (.iload_n 1, 1) := by decide +kernel
theorem dX3_pass_29 : decode cX3_pass 29 = .ok (.iaload, 1) := by decide +kernel
theorem dX3_pass_30 : decode cX3_pass 30 = .ok (.isub, 1) := by decide +kernel
theorem dX3_pass_31 : decode cX3_pass 31 = .ok (.invokestatic 128, 3) := by decide +kernel
theorem dX3_pass_34 : decode cX3_pass 34 = .ok (.imul, 1) := by decide +kernel
theorem dX3_pass_35 : decode cX3_pass 35 = .ok (.iadd, 1) := by decide +kernel
theorem dX3_pass_36 : decode cX3_pass 36 = .ok (.iastore, 1) := by decide +kernel
theorem dX3_pass_37 : decode cX3_pass 37 = .ok (.aload_n 0, 1) := by decide +kernel
theorem dX3_pass_38 : decode cX3_pass 38 = .ok (.getfield 45, 3) := by decide +kernel
theorem dX3_pass_41 : decode cX3_pass 41 = .ok (.iload_n 1, 1) := by decide +kernel
theorem dX3_pass_42 : decode cX3_pass 42 = .ok (.iconst 2, 1) := by decide +kernel
theorem dX3_pass_43 : decode cX3_pass 43 = .ok (.iload_n 3, 1) := by decide +kernel
theorem dX3_pass_44 : decode cX3_pass 44 = .ok (.imul, 1) := by decide +kernel
theorem dX3_pass_45 : decode cX3_pass 45 = .ok (.aload_n 0, 1) := by decide +kernel
theorem dX3_pass_46 : decode cX3_pass 46 = .ok (.getfield 26, 3) := by decide +kernel
theorem dX3_pass_49 : decode cX3_pass 49 = .ok (.aload_n 0, 1) := by decide +kernel
theorem dX3_pass_50 : decode cX3_pass 50 = .ok (.getfield 32, 3) := by decide +kernel
theorem dX3_pass_53 : decode cX3_pass 53 = .ok (.iload_n 1, 1) := by decide +kernel
theorem dX3_pass_54 : decode cX3_pass 54 = .ok (.iaload, 1) := by decide +kernel
theorem dX3_pass_55 : decode cX3_pass 55 = .ok (.iaload, 1) := by decide +kernel
theorem dX3_pass_56 : decode cX3_pass 56 = .ok (.if_icmp .lt 19, 3) := by decide +kernel
theorem dX3_pass_59 : decode cX3_pass 59 = .ok (.bipush 20, 2) := by decide +kernel
theorem dX3_pass_61 : decode cX3_pass 61 = .ok (.aload_n 0, 1) := by decide +kernel
theorem dX3_pass_62 : decode cX3_pass 62 = .ok (.getfield 45, 3) := by decide +kernel
theorem dX3_pass_65 : decode cX3_pass 65 = .ok (.iload_n 1, 1) := by decide +kernel
theorem dX3_pass_66 : decode cX3_pass 66 = .ok (.iaload, 1) := by decide +kernel
theorem dX3_pass_67 : decode cX3_pass 67 = .ok (.iconst 5, 1) := by decide +kernel
theorem dX3_pass_68 : decode cX3_pass 68 = .ok (.iadd, 1) := by decide +kernel
theorem dX3_pass_69 : decode cX3_pass 69 = .ok (.invokestatic 96, 3) := by decide +kernel
theorem dX3_pass_72 : decode cX3_pass 72 = .ok (.goto 15, 3) := by decide +kernel
theorem dX3_pass_75 : decode cX3_pass 75 = .ok (.iconst 0, 1) := by decide +kernel
theorem dX3_pass_76 : decode cX3_pass 76 = .ok (.aload_n 0, 1) := by decide +kernel
theorem dX3_pass_77 : decode cX3_pass 77 = .ok (.getfield 45, 3) := by decide +kernel
theorem dX3_pass_80 : decode cX3_pass 80 = .ok (.iload_n 1, 1) := by decide +kernel
theorem dX3_pass_81 : decode cX3_pass 81 = .ok (.iaload, 1) := by decide +kernel
theorem dX3_pass_82 : decode cX3_pass 82 = .ok (.iconst 3, 1) := by decide +kernel
theorem dX3_pass_83 : decode cX3_pass 83 = .ok (.isub, 1) := by decide +kernel
theorem dX3_pass_84 : decode cX3_pass 84 = .ok (.invokestatic 128, 3) := by decide +kernel
theorem dX3_pass_87 : decode cX3_pass 87 = .ok (.iastore, 1) := by decide +kernel
theorem dX3_pass_88 : decode cX3_pass 88 = .ok (.aload_n 0, 1) := by decide +kernel
theorem dX3_pass_89 : decode cX3_pass 89 = .ok (.iload_n 1, 1) := by decide +kernel
theorem dX3_pass_90 : decode cX3_pass 90 = .ok (.invokevirtual 131, 3) := by decide +kernel
theorem dX3_pass_93 : decode cX3_pass 93 = .ok (.iconst 3, 1) := by decide +kernel
theorem dX3_pass_94 : decode cX3_pass 94 = .ok (.iadd, 1) := by decide +kernel
theorem dX3_pass_95 : decode cX3_pass 95 = .ok (.aload_n 0, 1) := by decide +kernel
theorem dX3_pass_96 : decode cX3_pass 96 = .ok (.getfield 7, 3) := by decide +kernel
theorem dX3_pass_99 : decode cX3_pass 99 = .ok (.iadd, 1) := by decide +kernel
theorem dX3_pass_100 : decode cX3_pass 100 = .ok (.istore 4, 2) := by decide +kernel
theorem dX3_pass_102 : decode cX3_pass 102 = .ok (.iconst 0, 1) := by decide +kernel
theorem dX3_pass_103 : decode cX3_pass 103 = .ok (.istore 5, 2) := by decide +kernel
theorem dX3_pass_105 : decode cX3_pass 105 = .ok (.iconst 5, 1) := by decide +kernel
theorem dX3_pass_106 : decode cX3_pass 106 = .ok (.iload_n 1, 1) := by decide +kernel
theorem dX3_pass_107 : decode cX3_pass 107 = .ok (.imul, 1) := by decide +kernel
theorem dX3_pass_108 : decode cX3_pass 108 = .ok (.istore 6, 2) := by decide +kernel
theorem dX3_pass_110 : decode cX3_pass 110 = .ok (.iload 6, 2) := by decide +kernel
theorem dX3_pass_112 : decode cX3_pass 112 = .ok (.iconst 5, 1) := by decide +kernel
theorem dX3_pass_113 : decode cX3_pass 113 = .ok (.iload_n 1, 1) := by decide +kernel
theorem dX3_pass_114 : decode cX3_pass 114 = .ok (.imul, 1) := by decide +kernel
theorem dX3_pass_115 : decode cX3_pass 115 = .ok (.iconst 5, 1) := by decide +kernel
theorem dX3_pass_116 : decode cX3_pass 116 = .ok (.iadd, 1) := by decide +kernel
theorem dX3_pass_117 : decode cX3_pass 117 = .ok (.if_icmp .ge 76, 3) := by decide +kernel
theorem dX3_pass_120 : decode cX3_pass 120 = .ok (.aload_n 0, 1) := by decide +kernel
theorem dX3_pass_121 : decode cX3_pass 121 = .ok (.getfield 54, 3) := by decide +kernel
theorem dX3_pass_124 : decode cX3_pass 124 = .ok (.iload 6, 2) := by decide +kernel
theorem dX3_pass_126 : decode cX3_pass 126 = .ok (.iaload, 1) := by decide +kernel
theorem dX3_pass_127 : decode cX3_pass 127 = .ok (.ifCond .ne 7, 3) := by decide +kernel
theorem dX3_pass_130 : decode cX3_pass 130 = .ok (.iconst 0, 1) := by decide +kernel
theorem dX3_pass_131 : decode cX3_pass 131 = .ok (.goto 35, 3) := by decide +kernel
theorem dX3_pass_134 : decode cX3_pass 134 = .ok (.aload_n 0, 1) := by decide +kernel
theorem dX3_pass_135 : decode cX3_pass 135 = .ok (.getfield 54, 3) := by decide +kernel
theorem dX3_pass_138 : decode cX3_pass 138 = .ok (.iload 6, 2) := by decide +kernel
theorem dX3_pass_140 : decode cX3_pass 140 = .ok (.iaload, 1) := by decide +kernel
theorem dX3_pass_141 : decode cX3_pass 141 = .ok (.i2l, 1) := by decide +kernel
theorem dX3_pass_142 : decode cX3_pass 142 = .ok (.lconst 1, 1) := by decide +kernel
theorem dX3_pass_143 : decode cX3_pass 143 = .ok (.aload_n 0, 1) := by decide +kernel
theorem dX3_pass_144 : decode cX3_pass 144 = .ok (.getfield 54, 3) := by decide +kernel
theorem dX3_pass_147 : decode cX3_pass 147 = .ok (.iload 6, 2) := by decide +kernel
theorem dX3_pass_149 : decode cX3_pass 149 = .ok (.iaload, 1) := by decide +kernel
theorem dX3_pass_150 : decode cX3_pass 150 = .ok (.i2l, 1) := by decide +kernel
theorem dX3_pass_151 : decode cX3_pass 151 = .ok (.iload 4, 2) := by decide +kernel
theorem dX3_pass_153 : decode cX3_pass 153 = .ok (.i2l, 1) := by decide +kernel
theorem dX3_pass_154 : decode cX3_pass 154 = .ok (.lmul, 1) := by decide +kernel
theorem dX3_pass_155 : decode cX3_pass 155 = .ok (.ldc2_w 144, 3) := by decide +kernel
theorem dX3_pass_158 : decode cX3_pass 158 = .ok (.ldiv, 1) := by decide +kernel
theorem dX3_pass_159 : decode cX3_pass 159 = .ok (.invokestatic 146, 3) := by decide +kernel
theorem dX3_pass_162 : decode cX3_pass 162 = .ok (.invokestatic 149, 3) := by decide +kernel
theorem dX3_pass_165 : decode cX3_pass 165 = .ok (.l2i, 1) := by decide +kernel
theorem dX3_pass_166 : decode cX3_pass 166 = .ok (.istore 7, 2) := by decide +kernel
theorem dX3_pass_168 : decode cX3_pass 168 = .ok (.aload_n 0, 1) := by decide +kernel
theorem dX3_pass_169 : decode cX3_pass 169 = .ok (.getfield 54, 3) := by decide +kernel
theorem dX3_pass_172 : decode cX3_pass 172 = .ok (.iload 6, 2) := by decide +kernel
theorem dX3_pass_174 : decode cX3_pass 174 = .ok (.dup2, 1) := by decide +kernel
theorem dX3_pass_175 : decode cX3_pass 175 = .ok (.iaload, 1) := by decide +kernel
theorem dX3_pass_176 : decode cX3_pass 176 = .ok (.iload 7, 2) := by decide +kernel
theorem dX3_pass_178 : decode cX3_pass 178 = .ok (.isub, 1) := by decide +kernel
theorem dX3_pass_179 : decode cX3_pass 179 = .ok (.iastore, 1) := by decide +kernel
theorem dX3_pass_180 : decode cX3_pass 180 = .ok (.iload 5, 2) := by decide +kernel
theorem dX3_pass_182 : decode cX3_pass 182 = .ok (.iload 7, 2) := by decide +kernel
theorem dX3_pass_184 : decode cX3_pass 184 = .ok (.iadd, 1) := by decide +kernel
theorem dX3_pass_185 : decode cX3_pass 185 = .ok (.istore 5, 2) := by decide +kernel
theorem dX3_pass_187 : decode cX3_pass 187 = .ok (.iinc 6 1, 3) := by decide +kernel
theorem dX3_pass_190 : decode cX3_pass 190 = .ok (.goto (-80), 3) := by decide +kernel
theorem dX3_pass_193 : decode cX3_pass 193 = .ok (.aload_n 0, 1) := by decide +kernel
theorem dX3_pass_194 : decode cX3_pass 194 = .ok (.iload_n 1, 1) := by decide +kernel
theorem dX3_pass_195 : decode cX3_pass 195 = .ok (.invokevirtual 122, 3) := by decide +kernel
theorem dX3_pass_198 : decode cX3_pass 198 = .ok (.istore 6, 2) := by decide +kernel
theorem dX3_pass_200 : decode cX3_pass 200 = .ok (.aload_n 0, 1) := by decide +kernel
theorem dX3_pass_201 : decode cX3_pass 201 = .ok (.getfield 51, 3) := by decide +kernel
theorem dX3_pass_204 : decode cX3_pass 204 = .ok (.iload_n 1, 1) := by decide +kernel
theorem dX3_pass_205 : decode cX3_pass 205 = .ok (.iload 6, 2) := by decide +kernel
theorem dX3_pass_207 : decode cX3_pass 207 = .ok (.ifCond .le 34, 3) := by decide +kernel
theorem dX3_pass_210 : decode cX3_pass 210 = .ok (.iconst 5, 1) := by decide +kernel
theorem dX3_pass_211 : decode cX3_pass 211 = .ok (.iload 6, 2) := by decide +kernel
theorem dX3_pass_213 : decode cX3_pass 213 = .ok (.imul, 1) := by decide +kernel
theorem dX3_pass_214 : decode cX3_pass 214 = .ok (.iconst 4, 1) := by decide +kernel
theorem dX3_pass_215 : decode cX3_pass 215 = .ok (.aload_n 0, 1) := by decide +kernel
theorem dX3_pass_216 : decode cX3_pass 216 = .ok (.getfield 26, 3) := by decide +kernel
theorem dX3_pass_219 : decode cX3_pass 219 = .ok (.aload_n 0, 1) := by decide +kernel
theorem dX3_pass_220 : decode cX3_pass 220 = .ok (.getfield 32, 3) := by decide +kernel
theorem dX3_pass_223 : decode cX3_pass 223 = .ok (.iload_n 1, 1) := by decide +kernel
theorem dX3_pass_224 : decode cX3_pass 224 = .ok (.iaload, 1) := by decide +kernel
theorem dX3_pass_225 : decode cX3_pass 225 = .ok (.iaload, 1) := by decide +kernel
theorem dX3_pass_226 : decode cX3_pass 226 = .ok (.imul, 1) := by decide +kernel
theorem dX3_pass_227 : decode cX3_pass 227 = .ok (.if_icmp .ge 14, 3) := by decide +kernel
theorem dX3_pass_230 : decode cX3_pass 230 = .ok (.aload_n 0, 1) := by decide +kernel
theorem dX3_pass_231 : decode cX3_pass 231 = .ok (.getfield 51, 3) := by decide +kernel
theorem dX3_pass_234 : decode cX3_pass 234 = .ok (.iload_n 1, 1) := by decide +kernel
theorem dX3_pass_235 : decode cX3_pass 235 = .ok (.iaload, 1) := by decide +kernel
theorem dX3_pass_236 : decode cX3_pass 236 = .ok (.iconst 1, 1) := by decide +kernel
theorem dX3_pass_237 : decode cX3_pass 237 = .ok (.iadd, 1) := by decide +kernel
theorem dX3_pass_238 : decode cX3_pass 238 = .ok (.goto 4, 3) := by decide +kernel
theorem dX3_pass_241 : decode cX3_pass 241 = .ok (.iconst 0, 1) := by decide +kernel
theorem dX3_pass_242 : decode cX3_pass 242 = .ok (.iastore, 1) := by decide +kernel
theorem dX3_pass_243 : decode cX3_pass 243 = .ok (.aload_n 0, 1) := by decide +kernel
theorem dX3_pass_244 : decode cX3_pass 244 = .ok (.getfield 51, 3) := by decide +kernel
theorem dX3_pass_247 : decode cX3_pass 247 = .ok (.iload_n 1, 1) := by decide +kernel
theorem dX3_pass_248 : decode cX3_pass 248 = .ok (.iaload, 1) := by decide +kernel
theorem dX3_pass_249 : decode cX3_pass 249 = .ok (.bipush 6, 2) := by decide +kernel
theorem dX3_pass_251 : decode cX3_pass 251 = .ok (.if_icmp .ne 48, 3) := by decide +kernel
theorem dX3_pass_254 : decode cX3_pass 254 = .ok (.iconst 0, 1) := by decide +kernel
theorem dX3_pass_255 : decode cX3_pass 255 = .ok (.istore 7, 2) := by decide +kernel
theorem dX3_pass_257 : decode cX3_pass 257 = .ok (.iload 7, 2) := by decide +kernel
theorem dX3_pass_259 : decode cX3_pass 259 = .ok (.iconst 5, 1) := by decide +kernel
theorem dX3_pass_260 : decode cX3_pass 260 = .ok (.if_icmp .ge 32, 3) := by decide +kernel
theorem dX3_pass_263 : decode cX3_pass 263 = .ok (.aload_n 0, 1) := by decide +kernel
theorem dX3_pass_264 : decode cX3_pass 264 = .ok (.getfield 54, 3) := by decide +kernel
theorem dX3_pass_267 : decode cX3_pass 267 = .ok (.iconst 5, 1) := by decide +kernel
theorem dX3_pass_268 : decode cX3_pass 268 = .ok (.iload_n 1, 1) := by decide +kernel
theorem dX3_pass_269 : decode cX3_pass 269 = .ok (.imul, 1) := by decide +kernel
theorem dX3_pass_270 : decode cX3_pass 270 = .ok (.iload 7, 2) := by decide +kernel
theorem dX3_pass_272 : decode cX3_pass 272 = .ok (.iadd, 1) := by decide +kernel
theorem dX3_pass_273 : decode cX3_pass 273 = .ok (.iload 7, 2) := by decide +kernel
theorem dX3_pass_275 : decode cX3_pass 275 = .ok (.iconst 4, 1) := by decide +kernel
theorem dX3_pass_276 : decode cX3_pass 276 = .ok (.if_icmp .ne 8, 3) := by decide +kernel
theorem dX3_pass_279 : decode cX3_pass 279 = .ok (.iload 6, 2) := by decide +kernel
theorem dX3_pass_281 : decode cX3_pass 281 = .ok (.goto 4, 3) := by decide +kernel
theorem dX3_pass_284 : decode cX3_pass 284 = .ok (.iconst 0, 1) := by decide +kernel
theorem dX3_pass_285 : decode cX3_pass 285 = .ok (.iastore, 1) := by decide +kernel
theorem dX3_pass_286 : decode cX3_pass 286 = .ok (.iinc 7 1, 3) := by decide +kernel
theorem dX3_pass_289 : decode cX3_pass 289 = .ok (.goto (-32), 3) := by decide +kernel
theorem dX3_pass_292 : decode cX3_pass 292 = .ok (.aload_n 0, 1) := by decide +kernel
theorem dX3_pass_293 : decode cX3_pass 293 = .ok (.getfield 51, 3) := by decide +kernel
theorem dX3_pass_296 : decode cX3_pass 296 = .ok (.iload_n 1, 1) := by decide +kernel
theorem dX3_pass_297 : decode cX3_pass 297 = .ok (.iconst 0, 1) := by decide +kernel
theorem dX3_pass_298 : decode cX3_pass 298 = .ok (.iastore, 1) := by decide +kernel
theorem dX3_pass_299 : decode cX3_pass 299 = .ok (.iconst 0, 1) := by decide +kernel
theorem dX3_pass_300 : decode cX3_pass 300 = .ok (.istore 7, 2) := by decide +kernel
theorem dX3_pass_302 : decode cX3_pass 302 = .ok (.iload 7, 2) := by decide +kernel
theorem dX3_pass_304 : decode cX3_pass 304 = .ok (.aload_n 0, 1) := by decide +kernel
theorem dX3_pass_305 : decode cX3_pass 305 = .ok (.iload_n 1, 1) := by decide +kernel
theorem dX3_pass_306 : decode cX3_pass 306 = .ok (.invokevirtual 113, 3) := by decide +kernel
theorem dX3_pass_309 : decode cX3_pass 309 = .ok (.if_icmp .ge 46, 3) := by decide +kernel
theorem dX3_pass_312 : decode cX3_pass 312 = .ok (.iload_n 2, 1) := by decide +kernel
theorem dX3_pass_313 : decode cX3_pass 313 = .ok (.bipush 12, 2) := by decide +kernel
theorem dX3_pass_315 : decode cX3_pass 315 = .ok (.irem, 1) := by decide +kernel
theorem dX3_pass_316 : decode cX3_pass 316 = .ok (.ifCond .ne 39, 3) := by decide +kernel
theorem dX3_pass_319 : decode cX3_pass 319 = .ok (.aload_n 0, 1) := by decide +kernel
theorem dX3_pass_320 : decode cX3_pass 320 = .ok (.getfield 42, 3) := by decide +kernel
theorem dX3_pass_323 : decode cX3_pass 323 = .ok (.bipush 8, 2) := by decide +kernel
theorem dX3_pass_325 : decode cX3_pass 325 = .ok (.iload_n 1, 1) := by decide +kernel
theorem dX3_pass_326 : decode cX3_pass 326 = .ok (.imul, 1) := by decide +kernel
theorem dX3_pass_327 : decode cX3_pass 327 = .ok (.iload 7, 2) := by decide +kernel
theorem dX3_pass_329 : decode cX3_pass 329 = .ok (.iadd, 1) := by decide +kernel
theorem dX3_pass_330 : decode cX3_pass 330 = .ok (.iconst 0, 1) := by decide +kernel
theorem dX3_pass_331 : decode cX3_pass 331 = .ok (.aload_n 0, 1) := by decide +kernel
theorem dX3_pass_332 : decode cX3_pass 332 = .ok (.getfield 42, 3) := by decide +kernel
theorem dX3_pass_335 : decode cX3_pass 335 = .ok (.bipush 8, 2) := by decide +kernel
theorem dX3_pass_337 : decode cX3_pass 337 = .ok (.iload_n 1, 1) := by decide +kernel
theorem dX3_pass_338 : decode cX3_pass 338 = .ok (.imul, 1) := by decide +kernel
theorem dX3_pass_339 : decode cX3_pass 339 = .ok (.iload 7, 2) := by decide +kernel
theorem dX3_pass_341 : decode cX3_pass 341 = .ok (.iadd, 1) := by decide +kernel
theorem dX3_pass_342 : decode cX3_pass 342 = .ok (.iaload, 1) := by decide +kernel
theorem dX3_pass_343 : decode cX3_pass 343 = .ok (.iconst 1, 1) := by decide +kernel
theorem dX3_pass_344 : decode cX3_pass 344 = .ok (.isub, 1) := by decide +kernel
theorem dX3_pass_345 : decode cX3_pass 345 = .ok (.invokestatic 128, 3) := by decide +kernel
theorem dX3_pass_348 : decode cX3_pass 348 = .ok (.iastore, 1) := by decide +kernel
theorem dX3_pass_349 : decode cX3_pass 349 = .ok (.iinc 7 1, 3) := by decide +kernel
theorem dX3_pass_352 : decode cX3_pass 352 = .ok (.goto (-50), 3) := by decide +kernel
theorem dX3_pass_355 : decode cX3_pass 355 = .ok (.iload 5, 2) := by decide +kernel
theorem dX3_pass_357 : decode cX3_pass 357 = .ok (.ireturn, 1) := by decide +kernel
set_option maxRecDepth 20000 in
theorem ggX3_pass__X3_isIn : GoodIn wsX3_pass_ wsX3_isIn := goodIn_r _ [16] (by decide +kernel) (by decide +kernel)
set_option maxRecDepth 20000 in
theorem gX3_pass__X3_isIn : GoodIn wsX3_pass_ (va_wsS RX3 70 yX3_isIn wsX3_isIn) := goodIn_app (goodIn_of _ (by decide +kernel)) ggX3_pass__X3_isIn
set_option maxRecDepth 20000 in
theorem ggX3_pass__X3_no : GoodIn wsX3_pass_ wsX3_no := goodIn_r _ [20, 1, 62, 63, 64, 65, 66, 67, 68, 69, 70, 71, 72, 73, 74, 75, 76, 77, 78, 79, 80, 81, 82, 83, 84, 85, 86] (by decide +kernel) (by decide +kernel)
set_option maxRecDepth 20000 in
theorem gX3_pass__X3_no : GoodIn wsX3_pass_ (wsV RX3 74 RX3 yX3_no wsX3_no) := goodIn_app (goodIn_of _ (by decide +kernel)) ggX3_pass__X3_no
set_option maxRecDepth 20000 in
theorem ggX3_pass__X3_pass : GoodIn wsX3_pass_ wsX3_pass := goodIn_r _ [24, 25, 26, 27, 28, 9, 29, 30, 31, 32, 7, 8, 10, 33, 34, 35, 36, 37, 38, 39, 40, 41, 42, 43, 44, 45, 46, 15, 47, 48, 49, 50, 51, 52, 53, 54, 55, 56, 57, 58, 59, 60, 12, 61, 62, 63, 64, 65, 66, 67, 68, 69, 70, 71, 72, 73, 74, 75, 76, 77, 78, 79, 80, 81, 82, 83, 84, 85, 86] (by decide +kernel) (by decide +kernel)
set_option maxRecDepth 20000 in
theorem gX3_pass__X3_pass : GoodIn wsX3_pass_ (wsV RX3 157 RX3 yX3_pass wsX3_pass) := goodIn_app (goodIn_of _ (by decide +kernel)) ggX3_pass__X3_pass
theorem dX3_pass__0 : decode cX3_pass_ 0 = .ok (.aload_n 0, 1) := by decide +kernel
theorem dX3_pass__1 : decode cX3_pass_ 1 = .ok (.iconst 0, 1) := by decide +kernel
theorem dX3_pass__2 : decode cX3_pass_ 2 = .ok (.putfield 67, 3) := by decide +kernel
theorem dX3_pass__5 : decode cX3_pass_ 5 = .ok (.iload_n 1, 1) := by decide +kernel
theorem dX3_pass__6 : decode cX3_pass_ 6 = .ok (.iconst 1, 1) := by decide +kernel
theorem dX3_pass__7 : decode cX3_pass_ 7 = .ok (.bipush 60, 2) := by decide +kernel
theorem dX3_pass__9 : decode cX3_pass_ 9 = .ok (.invokestatic 70, 3) := by decide +kernel
theorem dX3_pass__12 : decode cX3_pass_ 12 = .ok (.ifCond .ne 9, 3) := by decide +kernel
theorem dX3_pass__15 : decode cX3_pass_ 15 = .ok (.aload_n 0, 1) := by decide +kernel
theorem dX3_pass__16 : decode cX3_pass_ 16 = .ok (.iconst 1, 1) := by decide +kernel
theorem dX3_pass__17 : decode cX3_pass_ 17 = .ok (.invokevirtual 74, 3) := by decide +kernel
theorem dX3_pass__20 : decode cX3_pass_ 20 = .ok (.ireturn, 1) := by decide +kernel
theorem dX3_pass__21 : decode cX3_pass_ 21 = .ok (.aload_n 0, 1) := by decide +kernel
theorem dX3_pass__22 : decode cX3_pass_ 22 = .ok (.getfield 151, 3) := by decide +kernel
theorem dX3_pass__25 : decode cX3_pass_ 25 = .ok (.iload_n 1, 1) := by decide +kernel
theorem dX3_pass__26 : decode cX3_pass_ 26 = .ok (.iadd, 1) := by decide +kernel
theorem dX3_pass__27 : decode cX3_pass_ 27 = .ok (.sipush 1200, 3) := by decide +kernel
theorem dX3_pass__30 : decode cX3_pass_ 30 = .ok (.if_icmp .le 9, 3) := by decide +kernel
theorem dX3_pass__33 : decode cX3_pass_ 33 = .ok (.aload_n 0, 1) := by decide +kernel
theorem dX3_pass__34 : decode cX3_pass_ 34 = .ok (.iconst 2, 1) := by decide +kernel
theorem dX3_pass__35 : decode cX3_pass_ 35 = .ok (.invokevirtual 74, 3) := by decide +kernel
theorem dX3_pass__38 : decode cX3_pass_ 38 = .ok (.ireturn, 1) := by decide +kernel
theorem dX3_pass__39 : decode cX3_pass_ 39 = .ok (.aload_n 0, 1) := by decide +kernel
theorem dX3_pass__40 : decode cX3_pass_ 40 = .ok (.getfield 154, 3) := by decide +kernel
theorem dX3_pass__43 : decode cX3_pass_ 43 = .ok (.istore_n 2, 1) := by decide +kernel
theorem dX3_pass__44 : decode cX3_pass_ 44 = .ok (.iconst 0, 1) := by decide +kernel
theorem dX3_pass__45 : decode cX3_pass_ 45 = .ok (.istore_n 3, 1) := by decide +kernel
theorem dX3_pass__46 : decode cX3_pass_ 46 = .ok (.iload_n 3, 1) := by decide +kernel
theorem dX3_pass__47 : decode cX3_pass_ 47 = .ok (.iload_n 1, 1) := by decide +kernel
theorem dX3_pass__48 : decode cX3_pass_ 48 = .ok (.if_icmp .ge 118, 3) := by decide +kernel
theorem dX3_pass__51 : decode cX3_pass_ 51 = .ok (.iconst 0, 1) := by decide +kernel
theorem dX3_pass__52 : decode cX3_pass_ 52 = .ok (.istore 4, 2) := by decide +kernel
theorem dX3_pass__54 : decode cX3_pass_ 54 = .ok (.iload 4, 2) := by decide +kernel
theorem dX3_pass__56 : decode cX3_pass_ 56 = .ok (.aload_n 0, 1) := by decide +kernel
theorem dX3_pass__57 : decode cX3_pass_ 57 = .ok (.getfield 78, 3) := by decide +kernel
theorem dX3_pass__60 : decode cX3_pass_ 60 = .ok (.if_icmp .ge 41, 3) := by decide +kernel
theorem dX3_pass__63 : decode cX3_pass_ 63 = .ok (.aload_n 0, 1) := by decide +kernel
theorem dX3_pass__64 : decode cX3_pass_ 64 = .ok (.getfield 20, 3) := by decide +kernel
theorem dX3_pass__67 : decode cX3_pass_ 67 = .ok (.iload 4, 2) := by decide +kernel
theorem dX3_pass__69 : decode cX3_pass_ 69 = .ok (.iaload, 1) := by decide +kernel
theorem dX3_pass__70 : decode cX3_pass_ 70 = .ok (.iconst (-1), 1) := by decide +kernel
theorem dX3_pass__71 : decode cX3_pass_ 71 = .ok (.if_icmp .ne 24, 3) := by decide +kernel
theorem dX3_pass__74 : decode cX3_pass_ 74 = .ok (.aload_n 0, 1) := by decide +kernel
theorem dX3_pass__75 : decode cX3_pass_ 75 = .ok (.getfield 17, 3) := by decide +kernel
theorem dX3_pass__78 : decode cX3_pass_ 78 = .ok (.iload 4, 2) := by decide +kernel
theorem dX3_pass__80 : decode cX3_pass_ 80 = .ok (.bipush 100, 2) := by decide +kernel
theorem dX3_pass__82 : decode cX3_pass_ 82 = .ok (.aload_n 0, 1) := by decide +kernel
theorem dX3_pass__83 : decode cX3_pass_ 83 = .ok (.getfield 17, 3) := by decide +kernel
theorem dX3_pass__86 : decode cX3_pass_ 86 = .ok (.iload 4, 2) := by decide +kernel
theorem dX3_pass__88 : decode cX3_pass_ 88 = .ok (.iaload, 1) := by decide +kernel
theorem dX3_pass__89 : decode cX3_pass_ 89 = .ok (.iconst 4, 1) := by decide +kernel
theorem dX3_pass__90 : decode cX3_pass_ 90 = .ok (.iadd, 1) := by decide +kernel
theorem dX3_pass__91 : decode cX3_pass_ 91 = .ok (.invokestatic 96, 3) := by decide +kernel
theorem dX3_pass__94 : decode cX3_pass_ 94 = .ok (.iastore, 1) := by decide +kernel
theorem dX3_pass__95 : decode cX3_pass_ 95 = .ok (.iinc 4 1, 3) := by decide +kernel
theorem dX3_pass__98 : decode cX3_pass_ 98 = .ok (.goto (-44), 3) := by decide +kernel
theorem dX3_pass__101 : decode cX3_pass_ 101 = .ok (.iconst 0, 1) := by decide +kernel
theorem dX3_pass__102 : decode cX3_pass_ 102 = .ok (.istore 4, 2) := by decide +kernel
theorem dX3_pass__104 : decode cX3_pass_ 104 = .ok (.iload 4, 2) := by decide +kernel
theorem dX3_pass__106 : decode cX3_pass_ 106 = .ok (.aload_n 0, 1) := by decide +kernel
theorem dX3_pass__107 : decode cX3_pass_ 107 = .ok (.getfield 110, 3) := by decide +kernel
theorem dX3_pass__110 : decode cX3_pass_ 110 = .ok (.if_icmp .ge 40, 3) := by decide +kernel
theorem dX3_pass__113 : decode cX3_pass_ 113 = .ok (.aload_n 0, 1) := by decide +kernel
theorem dX3_pass__114 : decode cX3_pass_ 114 = .ok (.getfield 35, 3) := by decide +kernel
theorem dX3_pass__117 : decode cX3_pass_ 117 = .ok (.iload 4, 2) := by decide +kernel
theorem dX3_pass__119 : decode cX3_pass_ 119 = .ok (.baload, 1) := by decide +kernel
theorem dX3_pass__120 : decode cX3_pass_ 120 = .ok (.ifCond .eq 24, 3) := by decide +kernel
theorem dX3_pass__123 : decode cX3_pass_ 123 = .ok (.aload_n 0, 1) := by decide +kernel
theorem dX3_pass__124 : decode cX3_pass_ 124 = .ok (.dup, 1) := by decide +kernel
theorem dX3_pass__125 : decode cX3_pass_ 125 = .ok (.getfield 154, 3) := by decide +kernel
theorem dX3_pass__128 : decode cX3_pass_ 128 = .ok (.aload_n 0, 1) := by decide +kernel
theorem dX3_pass__129 : decode cX3_pass_ 129 = .ok (.iload 4, 2) := by decide +kernel
theorem dX3_pass__131 : decode cX3_pass_ 131 = .ok (.aload_n 0, 1) := by decide +kernel
theorem dX3_pass__132 : decode cX3_pass_ 132 = .ok (.getfield 151, 3) := by decide +kernel
theorem dX3_pass__135 : decode cX3_pass_ 135 = .ok (.iconst 1, 1) := by decide +kernel
theorem dX3_pass__136 : decode cX3_pass_ 136 = .ok (.iadd, 1) := by decide +kernel
theorem dX3_pass__137 : decode cX3_pass_ 137 = .ok (.invokevirtual 157, 3) := by decide +kernel
theorem dX3_pass__140 : decode cX3_pass_ 140 = .ok (.iadd, 1) := by decide +kernel
theorem dX3_pass__141 : decode cX3_pass_ 141 = .ok (.putfield 154, 3) := by decide +kernel
theorem dX3_pass__144 : decode cX3_pass_ 144 = .ok (.iinc 4 1, 3) := by decide +kernel
theorem dX3_pass__147 : decode cX3_pass_ 147 = .ok (.goto (-43), 3) := by decide +kernel
theorem dX3_pass__150 : decode cX3_pass_ 150 = .ok (.aload_n 0, 1) := by decide +kernel
theorem dX3_pass__151 : decode cX3_pass_ 151 = .ok (.dup, 1) := by decide +kernel
theorem dX3_pass__152 : decode cX3_pass_ 152 = .ok (.getfield 151, 3) := by decide +kernel
theorem dX3_pass__155 : decode cX3_pass_ 155 = .ok (.iconst 1, 1) := by decide +kernel
theorem dX3_pass__156 : decode cX3_pass_ 156 = .ok (.iadd, 1) := by decide +kernel
theorem dX3_pass__157 : decode cX3_pass_ 157 = .ok (.putfield 151, 3) := by decide +kernel
theorem dX3_pass__160 : decode cX3_pass_ 160 = .ok (.iinc 3 1, 3) := by decide +kernel
theorem dX3_pass__163 : decode cX3_pass_ 163 = .ok (.goto (-117), 3) := by decide +kernel
theorem dX3_pass__166 : decode cX3_pass_ 166 = .ok (.aload_n 0, 1) := by decide +kernel
theorem dX3_pass__167 : decode cX3_pass_ 167 = .ok (.getfield 154, 3) := by decide +kernel
theorem dX3_pass__170 : decode cX3_pass_ 170 = .ok (.iload_n 2, 1) := by decide +kernel
theorem dX3_pass__171 : decode cX3_pass_ 171 = .ok (.isub, 1) := by decide +kernel
theorem dX3_pass__172 : decode cX3_pass_ 172 = .ok (.ireturn, 1) := by decide +kernel
set_option maxRecDepth 20000 in
theorem ggX3_counted_X3_all : GoodIn wsX3_counted wsX3_all := goodIn_r _ [15, 5, 16, 17, 18, 19, 20, 21, 22, 23, 24, 25, 26, 27, 28, 29, 30, 31, 32, 33, 34, 35, 36, 37, 38, 39, 40] (by decide +kernel) (by decide +kernel)
set_option maxRecDepth 20000 in
theorem gX3_counted_X3_all : GoodIn wsX3_counted (wsV RX3 122 RX3 yX3_all wsX3_all) := goodIn_app (goodIn_of _ (by decide +kernel)) ggX3_counted_X3_all
theorem dX3_counted_0 : decode cX3_counted 0 = .ok (.iconst 0, 1) := by decide +kernel
theorem dX3_counted_1 : decode cX3_counted 1 = .ok (.istore_n 2, 1) := by decide +kernel
theorem dX3_counted_2 : decode cX3_counted 2 = .ok (.iconst 0, 1) := by decide +kernel
theorem dX3_counted_3 : decode cX3_counted 3 = .ok (.istore_n 3, 1) := by decide +kernel
theorem dX3_counted_4 : decode cX3_counted 4 = .ok (.iconst 0, 1) := by decide +kernel
theorem dX3_counted_5 : decode cX3_counted 5 = .ok (.istore 4, 2) := by decide +kernel
theorem dX3_counted_7 : decode cX3_counted 7 = .ok (.iconst 0, 1) := by decide +kernel
theorem dX3_counted_8 : decode cX3_counted 8 = .ok (.istore 5, 2) := by decide +kernel
theorem dX3_counted_10 : decode cX3_counted 10 = .ok (.iconst 0, 1) := by decide +kernel
theorem dX3_counted_11 : decode cX3_counted 11 = .ok (.istore 6, 2) := by decide +kernel
theorem dX3_counted_13 : decode cX3_counted 13 = .ok (.iload 6, 2) := by decide +kernel
theorem dX3_counted_15 : decode cX3_counted 15 = .ok (.aload_n 0, 1) := by decide +kernel
theorem dX3_counted_16 : decode cX3_counted 16 = .ok (.getfield 78, 3) := by decide +kernel
theorem dX3_counted_19 : decode cX3_counted 19 = .ok (.if_icmp .ge 28, 3) := by decide +kernel
theorem dX3_counted_22 : decode cX3_counted 22 = .ok (.iload_n 2, 1) := by decide +kernel
theorem dX3_counted_23 : decode cX3_counted 23 = .ok (.aload_n 0, 1) := by decide +kernel
theorem dX3_counted_24 : decode cX3_counted 24 = .ok (.getfield 20, 3) := by decide +kernel
theorem dX3_counted_27 : decode cX3_counted 27 = .ok (.iload 6, 2) := by decide +kernel
theorem dX3_counted_29 : decode cX3_counted 29 = .ok (.iaload, 1) := by decide +kernel
theorem dX3_counted_30 : decode cX3_counted 30 = .ok (.iconst (-1), 1) := by decide +kernel
theorem dX3_counted_31 : decode cX3_counted 31 = .ok (.if_icmp .ne 7, 3) := by decide +kernel
theorem dX3_counted_34 : decode cX3_counted 34 = .ok (.iconst 1, 1) := by decide +kernel
theorem dX3_counted_35 : decode cX3_counted 35 = .ok (.goto 4, 3) := by decide +kernel
theorem dX3_counted_38 : decode cX3_counted 38 = .ok (.iconst 0, 1) := by decide +kernel
theorem dX3_counted_39 : decode cX3_counted 39 = .ok (.iadd, 1) := by decide +kernel
theorem dX3_counted_40 : decode cX3_counted 40 = .ok (.istore_n 2, 1) := by decide +kernel
theorem dX3_counted_41 : decode cX3_counted 41 = .ok (.iinc 6 1, 3) := by decide +kernel
theorem dX3_counted_44 : decode cX3_counted 44 = .ok (.goto (-31), 3) := by decide +kernel
theorem dX3_counted_47 : decode cX3_counted 47 = .ok (.iconst 0, 1) := by decide +kernel
theorem dX3_counted_48 : decode cX3_counted 48 = .ok (.istore 6, 2) := by decide +kernel
theorem dX3_counted_50 : decode cX3_counted 50 = .ok (.iload 6, 2) := by decide +kernel
theorem dX3_counted_52 : decode cX3_counted 52 = .ok (.aload_n 0, 1) := by decide +kernel
theorem dX3_counted_53 : decode cX3_counted 53 = .ok (.getfield 110, 3) := by decide +kernel
theorem dX3_counted_56 : decode cX3_counted 56 = .ok (.if_icmp .ge 54, 3) := by decide +kernel
theorem dX3_counted_59 : decode cX3_counted 59 = .ok (.iload_n 3, 1) := by decide +kernel
theorem dX3_counted_60 : decode cX3_counted 60 = .ok (.aload_n 0, 1) := by decide +kernel
theorem dX3_counted_61 : decode cX3_counted 61 = .ok (.getfield 35, 3) := by decide +kernel
theorem dX3_counted_64 : decode cX3_counted 64 = .ok (.iload 6, 2) := by decide +kernel
theorem dX3_counted_66 : decode cX3_counted 66 = .ok (.baload, 1) := by decide +kernel
theorem dX3_counted_67 : decode cX3_counted 67 = .ok (.ifCond .eq 7, 3) := by decide +kernel
theorem dX3_counted_70 : decode cX3_counted 70 = .ok (.iconst 1, 1) := by decide +kernel
theorem dX3_counted_71 : decode cX3_counted 71 = .ok (.goto 4, 3) := by decide +kernel
theorem dX3_counted_74 : decode cX3_counted 74 = .ok (.iconst 0, 1) := by decide +kernel
theorem dX3_counted_75 : decode cX3_counted 75 = .ok (.iadd, 1) := by decide +kernel
theorem dX3_counted_76 : decode cX3_counted 76 = .ok (.istore_n 3, 1) := by decide +kernel
theorem dX3_counted_77 : decode cX3_counted 77 = .ok (.iload 4, 2) := by decide +kernel
theorem dX3_counted_79 : decode cX3_counted 79 = .ok (.aload_n 0, 1) := by decide +kernel
theorem dX3_counted_80 : decode cX3_counted 80 = .ok (.iload 6, 2) := by decide +kernel
theorem dX3_counted_82 : decode cX3_counted 82 = .ok (.invokevirtual 122, 3) := by decide +kernel
theorem dX3_counted_85 : decode cX3_counted 85 = .ok (.iadd, 1) := by decide +kernel
theorem dX3_counted_86 : decode cX3_counted 86 = .ok (.istore 4, 2) := by decide +kernel
theorem dX3_counted_88 : decode cX3_counted 88 = .ok (.iload 5, 2) := by decide +kernel
theorem dX3_counted_90 : decode cX3_counted 90 = .ok (.aload_n 0, 1) := by decide +kernel
theorem dX3_counted_91 : decode cX3_counted 91 = .ok (.getfield 54, 3) := by decide +kernel
theorem dX3_counted_94 : decode cX3_counted 94 = .ok (.iconst 5, 1) := by decide +kernel
theorem dX3_counted_95 : decode cX3_counted 95 = .ok (.iload 6, 2) := by decide +kernel
theorem dX3_counted_97 : decode cX3_counted 97 = .ok (.imul, 1) := by decide +kernel
theorem dX3_counted_98 : decode cX3_counted 98 = .ok (.iconst 4, 1) := by decide +kernel
theorem dX3_counted_99 : decode cX3_counted 99 = .ok (.iadd, 1) := by decide +kernel
theorem dX3_counted_100 : decode cX3_counted 100 = .ok (.iaload, 1) := by decide +kernel
theorem dX3_counted_101 : decode cX3_counted 101 = .ok (.iadd, 1) := by decide +kernel
theorem dX3_counted_102 : decode cX3_counted 102 = .ok (.istore 5, 2) := by decide +kernel
theorem dX3_counted_104 : decode cX3_counted 104 = .ok (.iinc 6 1, 3) := by decide +kernel
theorem dX3_counted_107 : decode cX3_counted 107 = .ok (.goto (-57), 3) := by decide +kernel
theorem dX3_counted_110 : decode cX3_counted 110 = .ok (.bipush 10, 2) := by decide +kernel
theorem dX3_counted_112 : decode cX3_counted 112 = .ok (.newarray .int, 2) := by decide +kernel
theorem dX3_counted_114 : decode cX3_counted 114 = .ok (.dup, 1) := by decide +kernel
theorem dX3_counted_115 : decode cX3_counted 115 = .ok (.iconst 0, 1) := by decide +kernel
theorem dX3_counted_116 : decode cX3_counted 116 = .ok (.aload_n 0, 1) := by decide +kernel
theorem dX3_counted_117 : decode cX3_counted 117 = .ok (.getfield 151, 3) := by decide +kernel
theorem dX3_counted_120 : decode cX3_counted 120 = .ok (.iastore, 1) := by decide +kernel
theorem dX3_counted_121 : decode cX3_counted 121 = .ok (.dup, 1) := by decide +kernel
theorem dX3_counted_122 : decode cX3_counted 122 = .ok (.iconst 1, 1) := by decide +kernel
theorem dX3_counted_123 : decode cX3_counted 123 = .ok (.aload_n 0, 1) := by decide +kernel
theorem dX3_counted_124 : decode cX3_counted 124 = .ok (.getfield 78, 3) := by decide +kernel
theorem dX3_counted_127 : decode cX3_counted 127 = .ok (.iastore, 1) := by decide +kernel
theorem dX3_counted_128 : decode cX3_counted 128 = .ok (.dup, 1) := by decide +kernel
theorem dX3_counted_129 : decode cX3_counted 129 = .ok (.iconst 2, 1) := by decide +kernel
theorem dX3_counted_130 : decode cX3_counted 130 = .ok (.iload_n 2, 1) := by decide +kernel
theorem dX3_counted_131 : decode cX3_counted 131 = .ok (.iastore, 1) := by decide +kernel
theorem dX3_counted_132 : decode cX3_counted 132 = .ok (.dup, 1) := by decide +kernel
theorem dX3_counted_133 : decode cX3_counted 133 = .ok (.iconst 3, 1) := by decide +kernel
theorem dX3_counted_134 : decode cX3_counted 134 = .ok (.aload_n 0, 1) := by decide +kernel
theorem dX3_counted_135 : decode cX3_counted 135 = .ok (.getfield 90, 3) := by decide +kernel
theorem dX3_counted_138 : decode cX3_counted 138 = .ok (.iastore, 1) := by decide +kernel
theorem dX3_counted_139 : decode cX3_counted 139 = .ok (.dup, 1) := by decide +kernel
theorem dX3_counted_140 : decode cX3_counted 140 = .ok (.iconst 4, 1) := by decide +kernel
theorem dX3_counted_141 : decode cX3_counted 141 = .ok (.aload_n 0, 1) := by decide +kernel
theorem dX3_counted_142 : decode cX3_counted 142 = .ok (.getfield 110, 3) := by decide +kernel
theorem dX3_counted_145 : decode cX3_counted 145 = .ok (.iastore, 1) := by decide +kernel
theorem dX3_counted_146 : decode cX3_counted 146 = .ok (.dup, 1) := by decide +kernel
theorem dX3_counted_147 : decode cX3_counted 147 = .ok (.iconst 5, 1) := by decide +kernel
theorem dX3_counted_148 : decode cX3_counted 148 = .ok (.iload_n 3, 1) := by decide +kernel
theorem dX3_counted_149 : decode cX3_counted 149 = .ok (.iastore, 1) := by decide +kernel
theorem dX3_counted_150 : decode cX3_counted 150 = .ok (.dup, 1) := by decide +kernel
theorem dX3_counted_151 : decode cX3_counted 151 = .ok (.bipush 6, 2) := by decide +kernel
theorem dX3_counted_153 : decode cX3_counted 153 = .ok (.iload 4, 2) := by decide +kernel
theorem dX3_counted_155 : decode cX3_counted 155 = .ok (.iastore, 1) := by decide +kernel
theorem dX3_counted_156 : decode cX3_counted 156 = .ok (.dup, 1) := by decide +kernel
theorem dX3_counted_157 : decode cX3_counted 157 = .ok (.bipush 7, 2) := by decide +kernel
theorem dX3_counted_159 : decode cX3_counted 159 = .ok (.iload 5, 2) := by decide +kernel
theorem dX3_counted_161 : decode cX3_counted 161 = .ok (.iastore, 1) := by decide +kernel
theorem dX3_counted_162 : decode cX3_counted 162 = .ok (.dup, 1) := by decide +kernel
theorem dX3_counted_163 : decode cX3_counted 163 = .ok (.bipush 8, 2) := by decide +kernel
theorem dX3_counted_165 : decode cX3_counted 165 = .ok (.aload_n 0, 1) := by decide +kernel
theorem dX3_counted_166 : decode cX3_counted 166 = .ok (.getfield 154, 3) := by decide +kernel
theorem dX3_counted_169 : decode cX3_counted 169 = .ok (.iastore, 1) := by decide +kernel
theorem dX3_counted_170 : decode cX3_counted 170 = .ok (.dup, 1) := by decide +kernel
theorem dX3_counted_171 : decode cX3_counted 171 = .ok (.bipush 9, 2) := by decide +kernel
theorem dX3_counted_173 : decode cX3_counted 173 = .ok (.aload_n 0, 1) := by decide +kernel
theorem dX3_counted_174 : decode cX3_counted 174 = .ok (.getfield 7, 3) := by decide +kernel
theorem dX3_counted_177 : decode cX3_counted 177 = .ok (.iastore, 1) := by decide +kernel
theorem dX3_counted_178 : decode cX3_counted 178 = .ok (.astore 6, 2) := by decide +kernel
theorem dX3_counted_180 : decode cX3_counted 180 = .ok (.aload 6, 2) := by decide +kernel
theorem dX3_counted_182 : decode cX3_counted 182 = .ok (.iload_n 1, 1) := by decide +kernel
theorem dX3_counted_183 : decode cX3_counted 183 = .ok (.iaload, 1) := by decide +kernel
theorem dX3_counted_184 : decode cX3_counted 184 = .ok (.ireturn, 1) := by decide +kernel
set_option maxRecDepth 20000 in
theorem ggX3_count_X3_isIn : GoodIn wsX3_count wsX3_isIn := goodIn_r _ [5] (by decide +kernel) (by decide +kernel)
set_option maxRecDepth 20000 in
theorem gX3_count_X3_isIn : GoodIn wsX3_count (va_wsS RX3 70 yX3_isIn wsX3_isIn) := goodIn_app (goodIn_of _ (by decide +kernel)) ggX3_count_X3_isIn
set_option maxRecDepth 20000 in
theorem ggX3_count_X3_counted : GoodIn wsX3_count wsX3_counted := goodIn_r _ [9, 10, 11, 12, 13, 14, 15, 16, 17, 18, 19, 20, 21, 22, 4, 23, 28, 29, 30, 31, 32, 33, 34, 35, 36, 37, 38, 39, 40, 41, 42, 43, 44, 45, 46, 47, 48, 49, 50, 51, 52] (by decide +kernel) (by decide +kernel)
set_option maxRecDepth 20000 in
theorem gX3_count_X3_counted : GoodIn wsX3_count (wsV RX3 160 RX3 yX3_counted wsX3_counted) := goodIn_app (goodIn_of _ (by decide +kernel)) ggX3_count_X3_counted
set_option maxRecDepth 20000 in
theorem ggX3_count_X3_no : GoodIn wsX3_count wsX3_no := goodIn_r _ [27, 1, 28, 29, 30, 31, 32, 33, 34, 35, 36, 37, 38, 39, 40, 41, 42, 43, 44, 45, 46, 47, 48, 49, 50, 51, 52] (by decide +kernel) (by decide +kernel)
set_option maxRecDepth 20000 in
theorem gX3_count_X3_no : GoodIn wsX3_count (wsV RX3 74 RX3 yX3_no wsX3_no) := goodIn_app (goodIn_of _ (by decide +kernel)) ggX3_count_X3_no
theorem dX3_count_0 : decode cX3_count 0 = .ok (.aload_n 0, 1) := by decide +kernel
theorem dX3_count_1 : decode cX3_count 1 = .ok (.iconst 0, 1) := by decide +kernel
theorem dX3_count_2 : decode cX3_count 2 = .ok (.putfield 67, 3) := by decide +kernel
theorem dX3_count_5 : decode cX3_count 5 = .ok (.iload_n 1, 1) := by decide +kernel
theorem dX3_count_6 : decode cX3_count 6 = .ok (.iconst 0, 1) := by decide +kernel
theorem dX3_count_7 : decode cX3_count 7 = .ok (.bipush 9, 2) := by decide +kernel
theorem dX3_count_9 : decode cX3_count 9 = .ok (.invokestatic 70, 3) := by decide +kernel
theorem dX3_count_12 : decode cX3_count 12 = .ok (.ifCond .eq 11, 3) := by decide +kernel
theorem dX3_count_15 : decode cX3_count 15 = .ok (.aload_n 0, 1) := by decide +kernel
theorem dX3_count_16 : decode cX3_count 16 = .ok (.iload_n 1, 1) := by decide +kernel
theorem dX3_count_17 : decode cX3_count 17 = .ok (.invokevirtual 160, 3) := by decide +kernel
theorem dX3_count_20 : decode cX3_count 20 = .ok (.goto 8, 3) := by decide +kernel
theorem dX3_count_23 : decode cX3_count 23 = .ok (.aload_n 0, 1) := by decide +kernel
theorem dX3_count_24 : decode cX3_count 24 = .ok (.iconst 1, 1) := by decide +kernel
theorem dX3_count_25 : decode cX3_count 25 = .ok (.invokevirtual 74, 3) := by decide +kernel
theorem dX3_count_28 : decode cX3_count 28 = .ok (.ireturn, 1) := by decide +kernel
set_option maxRecDepth 20000 in
theorem ggX3_foreseen_X3_all : GoodIn wsX3_foreseen wsX3_all := goodIn_r _ [7, 1, 30, 31, 32, 33, 34, 35, 36, 37, 38, 39, 40, 41, 42, 43, 44, 45, 46, 47, 48, 49, 50, 51, 52, 53, 54] (by decide +kernel) (by decide +kernel)
set_option maxRecDepth 20000 in
theorem gX3_foreseen_X3_all : GoodIn wsX3_foreseen (wsV RX3 122 RX3 yX3_all wsX3_all) := goodIn_app (goodIn_of _ (by decide +kernel)) ggX3_foreseen_X3_all
set_option maxRecDepth 20000 in
theorem ggX3_foreseen_X3_leak : GoodIn wsX3_foreseen wsX3_leak := goodIn_r _ [11, 12, 13, 14, 15, 16, 17, 18, 19, 20, 6, 21, 22, 23, 24, 25, 26, 27, 28, 29, 30, 31, 32, 33, 34, 35, 36, 37, 38, 39, 40, 41, 42, 43, 44, 45, 46, 47, 48, 49, 50, 51, 52, 53, 54] (by decide +kernel) (by decide +kernel)
set_option maxRecDepth 20000 in
theorem gX3_foreseen_X3_leak : GoodIn wsX3_foreseen (wsV RX3 131 RX3 yX3_leak wsX3_leak) := goodIn_app (goodIn_of _ (by decide +kernel)) ggX3_foreseen_X3_leak
theorem dX3_foreseen_0 : decode cX3_foreseen 0 = .ok (.iload_n 2, 1) := by decide +kernel
theorem dX3_foreseen_1 : decode cX3_foreseen 1 = .ok (.ifCond .ne 11, 3) := by decide +kernel
theorem dX3_foreseen_4 : decode cX3_foreseen 4 = .ok (.aload_n 0, 1) := by decide +kernel
theorem dX3_foreseen_5 : decode cX3_foreseen 5 = .ok (.iload_n 1, 1) := by decide +kernel
theorem dX3_foreseen_6 : decode cX3_foreseen 6 = .ok (.invokevirtual 122, 3) := by decide +kernel
theorem dX3_foreseen_9 : decode cX3_foreseen 9 = .ok (.goto 40, 3) := by decide +kernel
theorem dX3_foreseen_12 : decode cX3_foreseen 12 = .ok (.iload_n 2, 1) := by decide +kernel
theorem dX3_foreseen_13 : decode cX3_foreseen 13 = .ok (.iconst 1, 1) := by decide +kernel
theorem dX3_foreseen_14 : decode cX3_foreseen 14 = .ok (.if_icmp .ne 16, 3) := by decide +kernel
theorem dX3_foreseen_17 : decode cX3_foreseen 17 = .ok (.aload_n 0, 1) := by decide +kernel
theorem dX3_foreseen_18 : decode cX3_foreseen 18 = .ok (.getfield 54, 3) := by decide +kernel
theorem dX3_foreseen_21 : decode cX3_foreseen 21 = .ok (.iconst 5, 1) := by decide +kernel
theorem dX3_foreseen_22 : decode cX3_foreseen 22 = .ok (.iload_n 1, 1) := by decide +kernel
theorem dX3_foreseen_23 : decode cX3_foreseen 23 = .ok (.imul, 1) := by decide +kernel
theorem dX3_foreseen_24 : decode cX3_foreseen 24 = .ok (.iconst 4, 1) := by decide +kernel
theorem dX3_foreseen_25 : decode cX3_foreseen 25 = .ok (.iadd, 1) := by decide +kernel
theorem dX3_foreseen_26 : decode cX3_foreseen 26 = .ok (.iaload, 1) := by decide +kernel
theorem dX3_foreseen_27 : decode cX3_foreseen 27 = .ok (.goto 22, 3) := by decide +kernel
theorem dX3_foreseen_30 : decode cX3_foreseen 30 = .ok (.iload_n 2, 1) := by decide +kernel
theorem dX3_foreseen_31 : decode cX3_foreseen 31 = .ok (.iconst 2, 1) := by decide +kernel
theorem dX3_foreseen_32 : decode cX3_foreseen 32 = .ok (.if_icmp .ne 12, 3) := by decide +kernel
theorem dX3_foreseen_35 : decode cX3_foreseen 35 = .ok (.aload_n 0, 1) := by decide +kernel
theorem dX3_foreseen_36 : decode cX3_foreseen 36 = .ok (.getfield 57, 3) := by decide +kernel
theorem dX3_foreseen_39 : decode cX3_foreseen 39 = .ok (.iload_n 1, 1) := by decide +kernel
theorem dX3_foreseen_40 : decode cX3_foreseen 40 = .ok (.iaload, 1) := by decide +kernel
theorem dX3_foreseen_41 : decode cX3_foreseen 41 = .ok (.goto 8, 3) := by decide +kernel
theorem dX3_foreseen_44 : decode cX3_foreseen 44 = .ok (.aload_n 0, 1) := by decide +kernel
theorem dX3_foreseen_45 : decode cX3_foreseen 45 = .ok (.iload_n 1, 1) := by decide +kernel
theorem dX3_foreseen_46 : decode cX3_foreseen 46 = .ok (.invokevirtual 131, 3) := by decide +kernel
theorem dX3_foreseen_49 : decode cX3_foreseen 49 = .ok (.ireturn, 1) := by decide +kernel
set_option maxRecDepth 20000 in
theorem ggX3_foresee_X3_isCask : GoodIn wsX3_foresee wsX3_isCask := goodIn_r _ [18, 19, 20, 21, 17, 22, 71, 72, 73, 74, 75, 76, 77, 78, 79, 80, 81, 82, 83, 84, 85, 86, 87, 88, 89, 90, 91, 92, 93, 94, 95] (by decide +kernel) (by decide +kernel)
set_option maxRecDepth 20000 in
theorem gX3_foresee_X3_isCask : GoodIn wsX3_foresee (wsV RX3 116 RX3 yX3_isCask wsX3_isCask) := goodIn_app (goodIn_of _ (by decide +kernel)) ggX3_foresee_X3_isCask
set_option maxRecDepth 20000 in
theorem ggX3_foresee_X3_isIn : GoodIn wsX3_foresee wsX3_isIn := goodIn_r _ [22] (by decide +kernel) (by decide +kernel)
set_option maxRecDepth 20000 in
theorem gX3_foresee_X3_isIn : GoodIn wsX3_foresee (va_wsS RX3 70 yX3_isIn wsX3_isIn) := goodIn_app (goodIn_of _ (by decide +kernel)) ggX3_foresee_X3_isIn
set_option maxRecDepth 20000 in
theorem ggX3_foresee_X3_no : GoodIn wsX3_foresee wsX3_no := goodIn_r _ [26, 1, 71, 72, 73, 74, 75, 76, 77, 78, 79, 80, 81, 82, 83, 84, 85, 86, 87, 88, 89, 90, 91, 92, 93, 94, 95] (by decide +kernel) (by decide +kernel)
set_option maxRecDepth 20000 in
theorem gX3_foresee_X3_no : GoodIn wsX3_foresee (wsV RX3 74 RX3 yX3_no wsX3_no) := goodIn_app (goodIn_of _ (by decide +kernel)) ggX3_foresee_X3_no
set_option maxRecDepth 20000 in
theorem ggX3_foresee_X3_pass : GoodIn wsX3_foresee wsX3_pass := goodIn_r _ [30, 7, 31, 32, 33, 34, 35, 5, 36, 37, 38, 39, 40, 41, 8, 42, 43, 44, 45, 46, 47, 48, 6, 13, 49, 50, 51, 17, 52, 53, 54, 55, 56, 57, 58, 59, 60, 61, 62, 63, 64, 65, 3, 66, 71, 72, 73, 74, 75, 76, 77, 78, 79, 80, 81, 82, 83, 84, 85, 86, 87, 88, 89, 90, 91, 92, 93, 94, 95] (by decide +kernel) (by decide +kernel)
set_option maxRecDepth 20000 in
theorem gX3_foresee_X3_pass : GoodIn wsX3_foresee (wsV RX3 157 RX3 yX3_pass wsX3_pass) := goodIn_app (goodIn_of _ (by decide +kernel)) ggX3_foresee_X3_pass
set_option maxRecDepth 20000 in
theorem ggX3_foresee_X3_foreseen : GoodIn wsX3_foresee wsX3_foreseen := goodIn_r _ [70, 8, 7, 49, 50, 51, 17, 52, 53, 54, 55, 56, 57, 5, 32, 33, 34, 35, 58, 59, 60, 61, 13, 62, 63, 64, 65, 3, 66, 37, 71, 72, 73, 74, 75, 76, 77, 78, 79, 80, 81, 82, 83, 84, 85, 86, 87, 88, 89, 90, 91, 92, 93, 94, 95] (by decide +kernel) (by decide +kernel)
set_option maxRecDepth 20000 in
theorem gX3_foresee_X3_foreseen : GoodIn wsX3_foresee (wsV RX3 169 RX3 yX3_foreseen wsX3_foreseen) := goodIn_app (goodIn_of _ (by decide +kernel)) ggX3_foresee_X3_foreseen
theorem dX3_foresee_0 : decode cX3_foresee 0 = .ok (.aload_n 0, 1) := by decide +kernel
theorem dX3_foresee_1 : decode cX3_foresee 1 = .ok (.iconst 0, 1) := by decide +kernel
theorem dX3_foresee_2 : decode cX3_foresee 2 = .ok (.putfield 67, 3) := by decide +kernel
theorem dX3_foresee_5 : decode cX3_foresee 5 = .ok (.aload_n 0, 1) := by decide +kernel
theorem dX3_foresee_6 : decode cX3_foresee 6 = .ok (.iload_n 1, 1) := by decide +kernel
theorem dX3_foresee_7 : decode cX3_foresee 7 = .ok (.invokevirtual 116, 3) := by decide +kernel
theorem dX3_foresee_10 : decode cX3_foresee 10 = .ok (.ifCond .eq 12, 3) := by decide +kernel
theorem dX3_foresee_13 : decode cX3_foresee 13 = .ok (.iload_n 3, 1) := by decide +kernel
theorem dX3_foresee_14 : decode cX3_foresee 14 = .ok (.iconst 0, 1) := by decide +kernel
theorem dX3_foresee_15 : decode cX3_foresee 15 = .ok (.iconst 3, 1) := by decide +kernel
theorem dX3_foresee_16 : decode cX3_foresee 16 = .ok (.invokestatic 70, 3) := by decide +kernel
theorem dX3_foresee_19 : decode cX3_foresee 19 = .ok (.ifCond .ne 9, 3) := by decide +kernel
theorem dX3_foresee_22 : decode cX3_foresee 22 = .ok (.aload_n 0, 1) := by decide +kernel
theorem dX3_foresee_23 : decode cX3_foresee 23 = .ok (.iconst 1, 1) := by decide +kernel
theorem dX3_foresee_24 : decode cX3_foresee 24 = .ok (.invokevirtual 74, 3) := by decide +kernel
theorem dX3_foresee_27 : decode cX3_foresee 27 = .ok (.ireturn, 1) := by decide +kernel
theorem dX3_foresee_28 : decode cX3_foresee 28 = .ok (.iload_n 2, 1) := by decide +kernel
theorem dX3_foresee_29 : decode cX3_foresee 29 = .ok (.iconst 1, 1) := by decide +kernel
theorem dX3_foresee_30 : decode cX3_foresee 30 = .ok (.bipush 60, 2) := by decide +kernel
theorem dX3_foresee_32 : decode cX3_foresee 32 = .ok (.invokestatic 70, 3) := by decide +kernel
theorem dX3_foresee_35 : decode cX3_foresee 35 = .ok (.ifCond .ne 9, 3) := by decide +kernel
theorem dX3_foresee_38 : decode cX3_foresee 38 = .ok (.aload_n 0, 1) := by decide +kernel
theorem dX3_foresee_39 : decode cX3_foresee 39 = .ok (.iconst 2, 1) := by decide +kernel
theorem dX3_foresee_40 : decode cX3_foresee 40 = .ok (.invokevirtual 74, 3) := by decide +kernel
theorem dX3_foresee_43 : decode cX3_foresee 43 = .ok (.ireturn, 1) := by decide +kernel
theorem dX3_foresee_44 : decode cX3_foresee 44 = .ok (.aload_n 0, 1) := by decide +kernel
theorem dX3_foresee_45 : decode cX3_foresee 45 = .ok (.getfield 151, 3) := by decide +kernel
theorem dX3_foresee_48 : decode cX3_foresee 48 = .ok (.iload_n 2, 1) := by decide +kernel
theorem dX3_foresee_49 : decode cX3_foresee 49 = .ok (.iadd, 1) := by decide +kernel
theorem dX3_foresee_50 : decode cX3_foresee 50 = .ok (.sipush 1200, 3) := by decide +kernel
theorem dX3_foresee_53 : decode cX3_foresee 53 = .ok (.if_icmp .le 9, 3) := by decide +kernel
theorem dX3_foresee_56 : decode cX3_foresee 56 = .ok (.aload_n 0, 1) := by decide +kernel
theorem dX3_foresee_57 : decode cX3_foresee 57 = .ok (.iconst 3, 1) := by decide +kernel
theorem dX3_foresee_58 : decode cX3_foresee 58 = .ok (.invokevirtual 74, 3) := by decide +kernel
theorem dX3_foresee_61 : decode cX3_foresee 61 = .ok (.ireturn, 1) := by decide +kernel
theorem dX3_foresee_62 : decode cX3_foresee 62 = .ok (.aload_n 0, 1) := by decide +kernel
theorem dX3_foresee_63 : decode cX3_foresee 63 = .ok (.getfield 35, 3) := by decide +kernel
theorem dX3_foresee_66 : decode cX3_foresee 66 = .ok (.iload_n 1, 1) := by decide +kernel
theorem dX3_foresee_67 : decode cX3_foresee 67 = .ok (.baload, 1) := by decide +kernel
theorem dX3_foresee_68 : decode cX3_foresee 68 = .ok (.ifCond .ne 5, 3) := by decide +kernel
theorem dX3_foresee_71 : decode cX3_foresee 71 = .ok (.iconst 0, 1) := by decide +kernel
theorem dX3_foresee_72 : decode cX3_foresee 72 = .ok (.ireturn, 1) := by decide +kernel
theorem dX3_foresee_73 : decode cX3_foresee 73 = .ok (.iconst 3, 1) := by decide +kernel
theorem dX3_foresee_74 : decode cX3_foresee 74 = .ok (.newarray .int, 2) := by decide +kernel
theorem dX3_foresee_76 : decode cX3_foresee 76 = .ok (.dup, 1) := by decide +kernel
theorem dX3_foresee_77 : decode cX3_foresee 77 = .ok (.iconst 0, 1) := by decide +kernel
theorem dX3_foresee_78 : decode cX3_foresee 78 = .ok (.aload_n 0, 1) := by decide +kernel
theorem dX3_foresee_79 : decode cX3_foresee 79 = .ok (.getfield 45, 3) := by decide +kernel
theorem dX3_foresee_82 : decode cX3_foresee 82 = .ok (.iload_n 1, 1) := by decide +kernel
theorem dX3_foresee_83 : decode cX3_foresee 83 = .ok (.iaload, 1) := by decide +kernel
theorem dX3_foresee_84 : decode cX3_foresee 84 = .ok (.iastore, 1) := by decide +kernel
theorem dX3_foresee_85 : decode cX3_foresee 85 = .ok (.dup, 1) := by decide +kernel
theorem dX3_foresee_86 : decode cX3_foresee 86 = .ok (.iconst 1, 1) := by decide +kernel
theorem dX3_foresee_87 : decode cX3_foresee 87 = .ok (.aload_n 0, 1) := by decide +kernel
theorem dX3_foresee_88 : decode cX3_foresee 88 = .ok (.getfield 51, 3) := by decide +kernel
theorem dX3_foresee_91 : decode cX3_foresee 91 = .ok (.iload_n 1, 1) := by decide +kernel
theorem dX3_foresee_92 : decode cX3_foresee 92 = .ok (.iaload, 1) := by decide +kernel
theorem dX3_foresee_93 : decode cX3_foresee 93 = .ok (.iastore, 1) := by decide +kernel
theorem dX3_foresee_94 : decode cX3_foresee 94 = .ok (.dup, 1) := by decide +kernel
theorem dX3_foresee_95 : decode cX3_foresee 95 = .ok (.iconst 2, 1) := by decide +kernel
theorem dX3_foresee_96 : decode cX3_foresee 96 = .ok (.aload_n 0, 1) := by decide +kernel
theorem dX3_foresee_97 : decode cX3_foresee 97 = .ok (.getfield 57, 3) := by decide +kernel
theorem dX3_foresee_100 : decode cX3_foresee 100 = .ok (.iload_n 1, 1) := by decide +kernel
theorem dX3_foresee_101 : decode cX3_foresee 101 = .ok (.iaload, 1) := by decide +kernel
theorem dX3_foresee_102 : decode cX3_foresee 102 = .ok (.iastore, 1) := by decide +kernel
theorem dX3_foresee_103 : decode cX3_foresee 103 = .ok (.astore 4, 2) := by decide +kernel
theorem dX3_foresee_105 : decode cX3_foresee 105 = .ok (.iconst 5, 1) := by decide +kernel
theorem dX3_foresee_106 : decode cX3_foresee 106 = .ok (.newarray .int, 2) := by decide +kernel
theorem dX3_foresee_108 : decode cX3_foresee 108 = .ok (.astore 5, 2) := by decide +kernel
theorem dX3_foresee_110 : decode cX3_foresee 110 = .ok (.bipush 8, 2) := by decide +kernel
theorem dX3_foresee_112 : decode cX3_foresee 112 = .ok (.newarray .int, 2) := by decide +kernel
theorem dX3_foresee_114 : decode cX3_foresee 114 = .ok (.astore 6, 2) := by decide +kernel
theorem dX3_foresee_116 : decode cX3_foresee 116 = .ok (.aload_n 0, 1) := by decide +kernel
theorem dX3_foresee_117 : decode cX3_foresee 117 = .ok (.getfield 54, 3) := by decide +kernel
theorem dX3_foresee_120 : decode cX3_foresee 120 = .ok (.iconst 5, 1) := by decide +kernel
theorem dX3_foresee_121 : decode cX3_foresee 121 = .ok (.iload_n 1, 1) := by decide +kernel
theorem dX3_foresee_122 : decode cX3_foresee 122 = .ok (.imul, 1) := by decide +kernel
theorem dX3_foresee_123 : decode cX3_foresee 123 = .ok (.aload 5, 2) := by decide +kernel
theorem dX3_foresee_125 : decode cX3_foresee 125 = .ok (.iconst 0, 1) := by decide +kernel
theorem dX3_foresee_126 : decode cX3_foresee 126 = .ok (.iconst 5, 1) := by decide +kernel
theorem dX3_foresee_127 : decode cX3_foresee 127 = .ok (.invokestatic 163, 3) := by decide +kernel
theorem dX3_foresee_130 : decode cX3_foresee 130 = .ok (.aload_n 0, 1) := by decide +kernel
theorem dX3_foresee_131 : decode cX3_foresee 131 = .ok (.getfield 42, 3) := by decide +kernel
theorem dX3_foresee_134 : decode cX3_foresee 134 = .ok (.bipush 8, 2) := by decide +kernel
theorem dX3_foresee_136 : decode cX3_foresee 136 = .ok (.iload_n 1, 1) := by decide +kernel
theorem dX3_foresee_137 : decode cX3_foresee 137 = .ok (.imul, 1) := by decide +kernel
theorem dX3_foresee_138 : decode cX3_foresee 138 = .ok (.aload 6, 2) := by decide +kernel
theorem dX3_foresee_140 : decode cX3_foresee 140 = .ok (.iconst 0, 1) := by decide +kernel
theorem dX3_foresee_141 : decode cX3_foresee 141 = .ok (.bipush 8, 2) := by decide +kernel
theorem dX3_foresee_143 : decode cX3_foresee 143 = .ok (.invokestatic 163, 3) := by decide +kernel
theorem dX3_foresee_146 : decode cX3_foresee 146 = .ok (.iconst 1, 1) := by decide +kernel
theorem dX3_foresee_147 : decode cX3_foresee 147 = .ok (.istore 7, 2) := by decide +kernel
theorem dX3_foresee_149 : decode cX3_foresee 149 = .ok (.iload 7, 2) := by decide +kernel
theorem dX3_foresee_151 : decode cX3_foresee 151 = .ok (.iload_n 2, 1) := by decide +kernel
theorem dX3_foresee_152 : decode cX3_foresee 152 = .ok (.if_icmp .gt 22, 3) := by decide +kernel
theorem dX3_foresee_155 : decode cX3_foresee 155 = .ok (.aload_n 0, 1) := by decide +kernel
theorem dX3_foresee_156 : decode cX3_foresee 156 = .ok (.iload_n 1, 1) := by decide +kernel
theorem dX3_foresee_157 : decode cX3_foresee 157 = .ok (.aload_n 0, 1) := by decide +kernel
theorem dX3_foresee_158 : decode cX3_foresee 158 = .ok (.getfield 151, 3) := by decide +kernel
theorem dX3_foresee_161 : decode cX3_foresee 161 = .ok (.iload 7, 2) := by decide +kernel
theorem dX3_foresee_163 : decode cX3_foresee 163 = .ok (.iadd, 1) := by decide +kernel
theorem dX3_foresee_164 : decode cX3_foresee 164 = .ok (.invokevirtual 157, 3) := by decide +kernel
theorem dX3_foresee_167 : decode cX3_foresee 167 = .ok (.pop, 1) := by decide +kernel
theorem dX3_foresee_168 : decode cX3_foresee 168 = .ok (.iinc 7 1, 3) := by decide +kernel
theorem dX3_foresee_171 : decode cX3_foresee 171 = .ok (.goto (-22), 3) := by decide +kernel
theorem dX3_foresee_174 : decode cX3_foresee 174 = .ok (.aload_n 0, 1) := by decide +kernel
theorem dX3_foresee_175 : decode cX3_foresee 175 = .ok (.iload_n 1, 1) := by decide +kernel
theorem dX3_foresee_176 : decode cX3_foresee 176 = .ok (.iload_n 3, 1) := by decide +kernel
theorem dX3_foresee_177 : decode cX3_foresee 177 = .ok (.invokevirtual 169, 3) := by decide +kernel
theorem dX3_foresee_180 : decode cX3_foresee 180 = .ok (.istore 7, 2) := by decide +kernel
theorem dX3_foresee_182 : decode cX3_foresee 182 = .ok (.aload_n 0, 1) := by decide +kernel
theorem dX3_foresee_183 : decode cX3_foresee 183 = .ok (.getfield 45, 3) := by decide +kernel
theorem dX3_foresee_186 : decode cX3_foresee 186 = .ok (.iload_n 1, 1) := by decide +kernel
theorem dX3_foresee_187 : decode cX3_foresee 187 = .ok (.aload 4, 2) := by decide +kernel
theorem dX3_foresee_189 : decode cX3_foresee 189 = .ok (.iconst 0, 1) := by decide +kernel
theorem dX3_foresee_190 : decode cX3_foresee 190 = .ok (.iaload, 1) := by decide +kernel
theorem dX3_foresee_191 : decode cX3_foresee 191 = .ok (.iastore, 1) := by decide +kernel
theorem dX3_foresee_192 : decode cX3_foresee 192 = .ok (.aload_n 0, 1) := by decide +kernel
theorem dX3_foresee_193 : decode cX3_foresee 193 = .ok (.getfield 51, 3) := by decide +kernel
theorem dX3_foresee_196 : decode cX3_foresee 196 = .ok (.iload_n 1, 1) := by decide +kernel
theorem dX3_foresee_197 : decode cX3_foresee 197 = .ok (.aload 4, 2) := by decide +kernel
theorem dX3_foresee_199 : decode cX3_foresee 199 = .ok (.iconst 1, 1) := by decide +kernel
theorem dX3_foresee_200 : decode cX3_foresee 200 = .ok (.iaload, 1) := by decide +kernel
theorem dX3_foresee_201 : decode cX3_foresee 201 = .ok (.iastore, 1) := by decide +kernel
theorem dX3_foresee_202 : decode cX3_foresee 202 = .ok (.aload_n 0, 1) := by decide +kernel
theorem dX3_foresee_203 : decode cX3_foresee 203 = .ok (.getfield 57, 3) := by decide +kernel
theorem dX3_foresee_206 : decode cX3_foresee 206 = .ok (.iload_n 1, 1) := by decide +kernel
theorem dX3_foresee_207 : decode cX3_foresee 207 = .ok (.aload 4, 2) := by decide +kernel
theorem dX3_foresee_209 : decode cX3_foresee 209 = .ok (.iconst 2, 1) := by decide +kernel
theorem dX3_foresee_210 : decode cX3_foresee 210 = .ok (.iaload, 1) := by decide +kernel
theorem dX3_foresee_211 : decode cX3_foresee 211 = .ok (.iastore, 1) := by decide +kernel
theorem dX3_foresee_212 : decode cX3_foresee 212 = .ok (.aload 5, 2) := by decide +kernel
theorem dX3_foresee_214 : decode cX3_foresee 214 = .ok (.iconst 0, 1) := by decide +kernel
theorem dX3_foresee_215 : decode cX3_foresee 215 = .ok (.aload_n 0, 1) := by decide +kernel
theorem dX3_foresee_216 : decode cX3_foresee 216 = .ok (.getfield 54, 3) := by decide +kernel
theorem dX3_foresee_219 : decode cX3_foresee 219 = .ok (.iconst 5, 1) := by decide +kernel
theorem dX3_foresee_220 : decode cX3_foresee 220 = .ok (.iload_n 1, 1) := by decide +kernel
theorem dX3_foresee_221 : decode cX3_foresee 221 = .ok (.imul, 1) := by decide +kernel
theorem dX3_foresee_222 : decode cX3_foresee 222 = .ok (.iconst 5, 1) := by decide +kernel
theorem dX3_foresee_223 : decode cX3_foresee 223 = .ok (.invokestatic 163, 3) := by decide +kernel
theorem dX3_foresee_226 : decode cX3_foresee 226 = .ok (.aload 6, 2) := by decide +kernel
theorem dX3_foresee_228 : decode cX3_foresee 228 = .ok (.iconst 0, 1) := by decide +kernel
theorem dX3_foresee_229 : decode cX3_foresee 229 = .ok (.aload_n 0, 1) := by decide +kernel
theorem dX3_foresee_230 : decode cX3_foresee 230 = .ok (.getfield 42, 3) := by decide +kernel
theorem dX3_foresee_233 : decode cX3_foresee 233 = .ok (.bipush 8, 2) := by decide +kernel
theorem dX3_foresee_235 : decode cX3_foresee 235 = .ok (.iload_n 1, 1) := by decide +kernel
theorem dX3_foresee_236 : decode cX3_foresee 236 = .ok (.imul, 1) := by decide +kernel
theorem dX3_foresee_237 : decode cX3_foresee 237 = .ok (.bipush 8, 2) := by decide +kernel
theorem dX3_foresee_239 : decode cX3_foresee 239 = .ok (.invokestatic 163, 3) := by decide +kernel
theorem dX3_foresee_242 : decode cX3_foresee 242 = .ok (.iload 7, 2) := by decide +kernel
theorem dX3_foresee_244 : decode cX3_foresee 244 = .ok (.ireturn, 1) := by decide +kernel
set_option maxRecDepth 20000 in
theorem ggX3_canBlend_X3_all : GoodIn wsX3_canBlend wsX3_all := goodIn_r _ [7, 2, 8, 9, 10, 11, 12, 13, 14, 15, 16, 17, 18, 19, 20, 21, 22, 23, 24, 25, 26, 27, 28, 29, 30, 31, 32] (by decide +kernel) (by decide +kernel)
set_option maxRecDepth 20000 in
theorem gX3_canBlend_X3_all : GoodIn wsX3_canBlend (wsV RX3 122 RX3 yX3_all wsX3_all) := goodIn_app (goodIn_of _ (by decide +kernel)) ggX3_canBlend_X3_all
theorem dX3_canBlend_0 : decode cX3_canBlend 0 = .ok (.aload_n 0, 1) := by decide +kernel
theorem dX3_canBlend_1 : decode cX3_canBlend 1 = .ok (.getfield 35, 3) := by decide +kernel
theorem dX3_canBlend_4 : decode cX3_canBlend 4 = .ok (.iload_n 1, 1) := by decide +kernel
theorem dX3_canBlend_5 : decode cX3_canBlend 5 = .ok (.baload, 1) := by decide +kernel
theorem dX3_canBlend_6 : decode cX3_canBlend 6 = .ok (.ifCond .eq 28, 3) := by decide +kernel
theorem dX3_canBlend_9 : decode cX3_canBlend 9 = .ok (.aload_n 0, 1) := by decide +kernel
theorem dX3_canBlend_10 : decode cX3_canBlend 10 = .ok (.iload_n 1, 1) := by decide +kernel
theorem dX3_canBlend_11 : decode cX3_canBlend 11 = .ok (.invokevirtual 122, 3) := by decide +kernel
theorem dX3_canBlend_14 : decode cX3_canBlend 14 = .ok (.ifCond .le 20, 3) := by decide +kernel
theorem dX3_canBlend_17 : decode cX3_canBlend 17 = .ok (.aload_n 0, 1) := by decide +kernel
theorem dX3_canBlend_18 : decode cX3_canBlend 18 = .ok (.getfield 54, 3) := by decide +kernel
theorem dX3_canBlend_21 : decode cX3_canBlend 21 = .ok (.iconst 5, 1) := by decide +kernel
theorem dX3_canBlend_22 : decode cX3_canBlend 22 = .ok (.iload_n 1, 1) := by decide +kernel
theorem dX3_canBlend_23 : decode cX3_canBlend 23 = .ok (.imul, 1) := by decide +kernel
theorem dX3_canBlend_24 : decode cX3_canBlend 24 = .ok (.iconst 4, 1) := by decide +kernel
theorem dX3_canBlend_25 : decode cX3_canBlend 25 = .ok (.iadd, 1) := by decide +kernel
theorem dX3_canBlend_26 : decode cX3_canBlend 26 = .ok (.iaload, 1) := by decide +kernel
theorem dX3_canBlend_27 : decode cX3_canBlend 27 = .ok (.ifCond .ne 7, 3) := by decide +kernel
theorem dX3_canBlend_30 : decode cX3_canBlend 30 = .ok (.iconst 1, 1) := by decide +kernel
theorem dX3_canBlend_31 : decode cX3_canBlend 31 = .ok (.goto 4, 3) := by decide +kernel
theorem dX3_canBlend_34 : decode cX3_canBlend 34 = .ok (.iconst 0, 1) := by decide +kernel
theorem dX3_canBlend_35 : decode cX3_canBlend 35 = .ok (.ireturn, 1) := by decide +kernel
set_option maxRecDepth 20000 in
theorem ggX3_tasteOf_X3_all : GoodIn wsX3_tasteOf wsX3_all := goodIn_r _ [12, 13, 14, 15, 16, 17, 18, 19, 20, 21, 22, 23, 24, 25, 26, 27, 28, 29, 30, 31, 32, 33, 34, 35, 36, 37, 38] (by decide +kernel) (by decide +kernel)
set_option maxRecDepth 20000 in
theorem gX3_tasteOf_X3_all : GoodIn wsX3_tasteOf (wsV RX3 122 RX3 yX3_all wsX3_all) := goodIn_app (goodIn_of _ (by decide +kernel)) ggX3_tasteOf_X3_all
theorem dX3_tasteOf_0 : decode cX3_tasteOf 0 = .ok (.ldc2_w 172, 3) := by decide +kernel
theorem dX3_tasteOf_3 : decode cX3_tasteOf 3 = .ok (.aload_n 0, 1) := by decide +kernel
theorem dX3_tasteOf_4 : decode cX3_tasteOf 4 = .ok (.getfield 57, 3) := by decide +kernel
theorem dX3_tasteOf_7 : decode cX3_tasteOf 7 = .ok (.iload_n 1, 1) := by decide +kernel
theorem dX3_tasteOf_8 : decode cX3_tasteOf 8 = .ok (.iaload, 1) := by decide +kernel
theorem dX3_tasteOf_9 : decode cX3_tasteOf 9 = .ok (.i2l, 1) := by decide +kernel
theorem dX3_tasteOf_10 : decode cX3_tasteOf 10 = .ok (.ldc2_w 144, 3) := by decide +kernel
theorem dX3_tasteOf_13 : decode cX3_tasteOf 13 = .ok (.lmul, 1) := by decide +kernel
theorem dX3_tasteOf_14 : decode cX3_tasteOf 14 = .ok (.aload_n 0, 1) := by decide +kernel
theorem dX3_tasteOf_15 : decode cX3_tasteOf 15 = .ok (.iload_n 1, 1) := by decide +kernel
theorem dX3_tasteOf_16 : decode cX3_tasteOf 16 = .ok (.invokevirtual 122, 3) := by decide +kernel
theorem dX3_tasteOf_19 : decode cX3_tasteOf 19 = .ok (.i2l, 1) := by decide +kernel
theorem dX3_tasteOf_20 : decode cX3_tasteOf 20 = .ok (.ldiv, 1) := by decide +kernel
theorem dX3_tasteOf_21 : decode cX3_tasteOf 21 = .ok (.invokestatic 149, 3) := by decide +kernel
theorem dX3_tasteOf_24 : decode cX3_tasteOf 24 = .ok (.lreturn, 1) := by decide +kernel
set_option maxRecDepth 20000 in
theorem ggX3_blend_X3_isIn : GoodIn wsX3_blend wsX3_isIn := goodIn_r _ [14] (by decide +kernel) (by decide +kernel)
set_option maxRecDepth 20000 in
theorem gX3_blend_X3_isIn : GoodIn wsX3_blend (va_wsS RX3 70 yX3_isIn wsX3_isIn) := goodIn_app (goodIn_of _ (by decide +kernel)) ggX3_blend_X3_isIn
set_option maxRecDepth 20000 in
theorem ggX3_blend_X3_no : GoodIn wsX3_blend wsX3_no := goodIn_r _ [18, 1, 39, 40, 41, 42, 43, 44, 45, 46, 47, 48, 49, 50, 51, 52, 53, 54, 55, 56, 57, 58, 59, 60, 61, 62, 63] (by decide +kernel) (by decide +kernel)
set_option maxRecDepth 20000 in
theorem gX3_blend_X3_no : GoodIn wsX3_blend (wsV RX3 74 RX3 yX3_no wsX3_no) := goodIn_app (goodIn_of _ (by decide +kernel)) ggX3_blend_X3_no
set_option maxRecDepth 20000 in
theorem ggX3_blend_X3_canBlend : GoodIn wsX3_blend wsX3_canBlend := goodIn_r _ [22, 23, 24, 25, 26, 27, 13, 28, 39, 40, 41, 42, 43, 44, 45, 46, 47, 48, 49, 50, 51, 52, 53, 54, 55, 56, 57, 58, 59, 60, 61, 62, 63] (by decide +kernel) (by decide +kernel)
set_option maxRecDepth 20000 in
theorem gX3_blend_X3_canBlend : GoodIn wsX3_blend (wsV RX3 177 RX3 yX3_canBlend wsX3_canBlend) := goodIn_app (goodIn_of _ (by decide +kernel)) ggX3_blend_X3_canBlend
set_option maxRecDepth 20000 in
theorem ggX3_blend_X3_tasteOf : GoodIn wsX3_blend wsX3_tasteOf := goodIn_r _ [32, 33, 34, 35, 36, 37, 9, 38, 25, 26, 27, 13, 28, 24, 39, 40, 41, 42, 43, 44, 45, 46, 47, 48, 49, 50, 51, 52, 53, 54, 55, 56, 57, 58, 59, 60, 61, 62, 63] (by decide +kernel) (by decide +kernel)
set_option maxRecDepth 20000 in
theorem gX3_blend_X3_tasteOf : GoodIn wsX3_blend (wsV RX3 180 RX3 yX3_tasteOf wsX3_tasteOf) := goodIn_app (goodIn_of _ (by decide +kernel)) ggX3_blend_X3_tasteOf
theorem dX3_blend_0 : decode cX3_blend 0 = .ok (.aload_n 0, 1) := by decide +kernel
theorem dX3_blend_1 : decode cX3_blend 1 = .ok (.iconst 0, 1) := by decide +kernel
theorem dX3_blend_2 : decode cX3_blend 2 = .ok (.putfield 67, 3) := by decide +kernel
theorem dX3_blend_5 : decode cX3_blend 5 = .ok (.iload_n 1, 1) := by decide +kernel
theorem dX3_blend_6 : decode cX3_blend 6 = .ok (.iconst 0, 1) := by decide +kernel
theorem dX3_blend_7 : decode cX3_blend 7 = .ok (.ldc 174, 2) := by decide +kernel
theorem dX3_blend_9 : decode cX3_blend 9 = .ok (.invokestatic 70, 3) := by decide +kernel
theorem dX3_blend_12 : decode cX3_blend 12 = .ok (.ifCond .ne 9, 3) := by decide +kernel
theorem dX3_blend_15 : decode cX3_blend 15 = .ok (.aload_n 0, 1) := by decide +kernel
theorem dX3_blend_16 : decode cX3_blend 16 = .ok (.iconst 1, 1) := by decide +kernel
theorem dX3_blend_17 : decode cX3_blend 17 = .ok (.invokevirtual 74, 3) := by decide +kernel
theorem dX3_blend_20 : decode cX3_blend 20 = .ok (.ireturn, 1) := by decide +kernel
theorem dX3_blend_21 : decode cX3_blend 21 = .ok (.iload_n 2, 1) := by decide +kernel
theorem dX3_blend_22 : decode cX3_blend 22 = .ok (.iconst 0, 1) := by decide +kernel
theorem dX3_blend_23 : decode cX3_blend 23 = .ok (.iconst 3, 1) := by decide +kernel
theorem dX3_blend_24 : decode cX3_blend 24 = .ok (.invokestatic 70, 3) := by decide +kernel
theorem dX3_blend_27 : decode cX3_blend 27 = .ok (.ifCond .ne 9, 3) := by decide +kernel
theorem dX3_blend_30 : decode cX3_blend 30 = .ok (.aload_n 0, 1) := by decide +kernel
theorem dX3_blend_31 : decode cX3_blend 31 = .ok (.iconst 2, 1) := by decide +kernel
theorem dX3_blend_32 : decode cX3_blend 32 = .ok (.invokevirtual 74, 3) := by decide +kernel
theorem dX3_blend_35 : decode cX3_blend 35 = .ok (.ireturn, 1) := by decide +kernel
theorem dX3_blend_36 : decode cX3_blend 36 = .ok (.iconst 4, 1) := by decide +kernel
theorem dX3_blend_37 : decode cX3_blend 37 = .ok (.newarray .int, 2) := by decide +kernel
theorem dX3_blend_39 : decode cX3_blend 39 = .ok (.dup, 1) := by decide +kernel
theorem dX3_blend_40 : decode cX3_blend 40 = .ok (.iconst 0, 1) := by decide +kernel
theorem dX3_blend_41 : decode cX3_blend 41 = .ok (.iconst (-1), 1) := by decide +kernel
theorem dX3_blend_42 : decode cX3_blend 42 = .ok (.iastore, 1) := by decide +kernel
theorem dX3_blend_43 : decode cX3_blend 43 = .ok (.dup, 1) := by decide +kernel
theorem dX3_blend_44 : decode cX3_blend 44 = .ok (.iconst 1, 1) := by decide +kernel
theorem dX3_blend_45 : decode cX3_blend 45 = .ok (.iconst (-1), 1) := by decide +kernel
theorem dX3_blend_46 : decode cX3_blend 46 = .ok (.iastore, 1) := by decide +kernel
theorem dX3_blend_47 : decode cX3_blend 47 = .ok (.dup, 1) := by decide +kernel
theorem dX3_blend_48 : decode cX3_blend 48 = .ok (.iconst 2, 1) := by decide +kernel
theorem dX3_blend_49 : decode cX3_blend 49 = .ok (.iconst (-1), 1) := by decide +kernel
theorem dX3_blend_50 : decode cX3_blend 50 = .ok (.iastore, 1) := by decide +kernel
theorem dX3_blend_51 : decode cX3_blend 51 = .ok (.dup, 1) := by decide +kernel
theorem dX3_blend_52 : decode cX3_blend 52 = .ok (.iconst 3, 1) := by decide +kernel
theorem dX3_blend_53 : decode cX3_blend 53 = .ok (.iconst (-1), 1) := by decide +kernel
theorem dX3_blend_54 : decode cX3_blend 54 = .ok (.iastore, 1) := by decide +kernel
theorem dX3_blend_55 : decode cX3_blend 55 = .ok (.astore_n 3, 1) := by decide +kernel
theorem dX3_blend_56 : decode cX3_blend 56 = .ok (.ldc2_w 175, 3) := by decide +kernel
theorem dX3_blend_59 : decode cX3_blend 59 = .ok (.lstore 4, 2) := by decide +kernel
theorem dX3_blend_61 : decode cX3_blend 61 = .ok (.iconst 0, 1) := by decide +kernel
theorem dX3_blend_62 : decode cX3_blend 62 = .ok (.istore 6, 2) := by decide +kernel
theorem dX3_blend_64 : decode cX3_blend 64 = .ok (.iload 6, 2) := by decide +kernel
theorem dX3_blend_66 : decode cX3_blend 66 = .ok (.aload_n 0, 1) := by decide +kernel
theorem dX3_blend_67 : decode cX3_blend 67 = .ok (.getfield 110, 3) := by decide +kernel
theorem dX3_blend_70 : decode cX3_blend 70 = .ok (.if_icmp .ge 147, 3) := by decide +kernel
theorem dX3_blend_73 : decode cX3_blend 73 = .ok (.iload 6, 2) := by decide +kernel
theorem dX3_blend_75 : decode cX3_blend 75 = .ok (.iconst 1, 1) := by decide +kernel
theorem dX3_blend_76 : decode cX3_blend 76 = .ok (.iadd, 1) := by decide +kernel
theorem dX3_blend_77 : decode cX3_blend 77 = .ok (.istore 7, 2) := by decide +kernel
theorem dX3_blend_79 : decode cX3_blend 79 = .ok (.iload 7, 2) := by decide +kernel
theorem dX3_blend_81 : decode cX3_blend 81 = .ok (.aload_n 0, 1) := by decide +kernel
theorem dX3_blend_82 : decode cX3_blend 82 = .ok (.getfield 110, 3) := by decide +kernel
theorem dX3_blend_85 : decode cX3_blend 85 = .ok (.if_icmp .ge 126, 3) := by decide +kernel
theorem dX3_blend_88 : decode cX3_blend 88 = .ok (.iconst 1, 1) := by decide +kernel
theorem dX3_blend_89 : decode cX3_blend 89 = .ok (.istore 8, 2) := by decide +kernel
theorem dX3_blend_91 : decode cX3_blend 91 = .ok (.iload 8, 2) := by decide +kernel
theorem dX3_blend_93 : decode cX3_blend 93 = .ok (.bipush 10, 2) := by decide +kernel
theorem dX3_blend_95 : decode cX3_blend 95 = .ok (.if_icmp .ge 110, 3) := by decide +kernel
theorem dX3_blend_98 : decode cX3_blend 98 = .ok (.aload_n 0, 1) := by decide +kernel
theorem dX3_blend_99 : decode cX3_blend 99 = .ok (.iload 6, 2) := by decide +kernel
theorem dX3_blend_101 : decode cX3_blend 101 = .ok (.invokevirtual 177, 3) := by decide +kernel
theorem dX3_blend_104 : decode cX3_blend 104 = .ok (.ifCond .eq 101, 3) := by decide +kernel
theorem dX3_blend_107 : decode cX3_blend 107 = .ok (.aload_n 0, 1) := by decide +kernel
theorem dX3_blend_108 : decode cX3_blend 108 = .ok (.iload 7, 2) := by decide +kernel
theorem dX3_blend_110 : decode cX3_blend 110 = .ok (.invokevirtual 177, 3) := by decide +kernel
theorem dX3_blend_113 : decode cX3_blend 113 = .ok (.ifCond .eq 92, 3) := by decide +kernel
theorem dX3_blend_116 : decode cX3_blend 116 = .ok (.iload 8, 2) := by decide +kernel
theorem dX3_blend_118 : decode cX3_blend 118 = .ok (.i2l, 1) := by decide +kernel
theorem dX3_blend_119 : decode cX3_blend 119 = .ok (.aload_n 0, 1) := by decide +kernel
theorem dX3_blend_120 : decode cX3_blend 120 = .ok (.iload 6, 2) := by decide +kernel
theorem dX3_blend_122 : decode cX3_blend 122 = .ok (.invokevirtual 180, 3) := by decide +kernel
theorem dX3_blend_125 : decode cX3_blend 125 = .ok (.lmul, 1) := by decide +kernel
theorem dX3_blend_126 : decode cX3_blend 126 = .ok (.bipush 10, 2) := by decide +kernel
theorem dX3_blend_128 : decode cX3_blend 128 = .ok (.iload 8, 2) := by decide +kernel
theorem dX3_blend_130 : decode cX3_blend 130 = .ok (.isub, 1) := by decide +kernel
theorem dX3_blend_131 : decode cX3_blend 131 = .ok (.i2l, 1) := by decide +kernel
theorem dX3_blend_132 : decode cX3_blend 132 = .ok (.aload_n 0, 1) := by decide +kernel
theorem dX3_blend_133 : decode cX3_blend 133 = .ok (.iload 7, 2) := by decide +kernel
theorem dX3_blend_135 : decode cX3_blend 135 = .ok (.invokevirtual 180, 3) := by decide +kernel
theorem dX3_blend_138 : decode cX3_blend 138 = .ok (.lmul, 1) := by decide +kernel
theorem dX3_blend_139 : decode cX3_blend 139 = .ok (.ladd, 1) := by decide +kernel
theorem dX3_blend_140 : decode cX3_blend 140 = .ok (.ldc2_w 184, 3) := by decide +kernel
theorem dX3_blend_143 : decode cX3_blend 143 = .ok (.ldiv, 1) := by decide +kernel
theorem dX3_blend_144 : decode cX3_blend 144 = .ok (.lstore 9, 2) := by decide +kernel
theorem dX3_blend_146 : decode cX3_blend 146 = .ok (.lload 9, 2) := by decide +kernel
theorem dX3_blend_148 : decode cX3_blend 148 = .ok (.iload_n 1, 1) := by decide +kernel
theorem dX3_blend_149 : decode cX3_blend 149 = .ok (.i2l, 1) := by decide +kernel
theorem dX3_blend_150 : decode cX3_blend 150 = .ok (.lsub, 1) := by decide +kernel
theorem dX3_blend_151 : decode cX3_blend 151 = .ok (.invokestatic 186, 3) := by decide +kernel
theorem dX3_blend_154 : decode cX3_blend 154 = .ok (.lstore 11, 2) := by decide +kernel
theorem dX3_blend_156 : decode cX3_blend 156 = .ok (.lload 4, 2) := by decide +kernel
theorem dX3_blend_158 : decode cX3_blend 158 = .ok (.lconst 0, 1) := by decide +kernel
theorem dX3_blend_159 : decode cX3_blend 159 = .ok (.lcmp, 1) := by decide +kernel
theorem dX3_blend_160 : decode cX3_blend 160 = .ok (.ifCond .lt 14, 3) := by decide +kernel
theorem dX3_blend_163 : decode cX3_blend 163 = .ok (.lload 11, 2) := by decide +kernel
theorem dX3_blend_165 : decode cX3_blend 165 = .ok (.lload 4, 2) := by decide +kernel
theorem dX3_blend_167 : decode cX3_blend 167 = .ok (.lcmp, 1) := by decide +kernel
theorem dX3_blend_168 : decode cX3_blend 168 = .ok (.ifCond .lt 6, 3) := by decide +kernel
theorem dX3_blend_171 : decode cX3_blend 171 = .ok (.goto 28, 3) := by decide +kernel
theorem dX3_blend_174 : decode cX3_blend 174 = .ok (.lload 11, 2) := by decide +kernel
theorem dX3_blend_176 : decode cX3_blend 176 = .ok (.lstore 4, 2) := by decide +kernel
theorem dX3_blend_178 : decode cX3_blend 178 = .ok (.aload_n 3, 1) := by decide +kernel
theorem dX3_blend_179 : decode cX3_blend 179 = .ok (.iconst 0, 1) := by decide +kernel
theorem dX3_blend_180 : decode cX3_blend 180 = .ok (.iload 6, 2) := by decide +kernel
theorem dX3_blend_182 : decode cX3_blend 182 = .ok (.iastore, 1) := by decide +kernel
theorem dX3_blend_183 : decode cX3_blend 183 = .ok (.aload_n 3, 1) := by decide +kernel
theorem dX3_blend_184 : decode cX3_blend 184 = .ok (.iconst 1, 1) := by decide +kernel
theorem dX3_blend_185 : decode cX3_blend 185 = .ok (.iload 7, 2) := by decide +kernel
theorem dX3_blend_187 : decode cX3_blend 187 = .ok (.iastore, 1) := by decide +kernel
theorem dX3_blend_188 : decode cX3_blend 188 = .ok (.aload_n 3, 1) := by decide +kernel
theorem dX3_blend_189 : decode cX3_blend 189 = .ok (.iconst 2, 1) := by decide +kernel
theorem dX3_blend_190 : decode cX3_blend 190 = .ok (.iload 8, 2) := by decide +kernel
theorem dX3_blend_192 : decode cX3_blend 192 = .ok (.iastore, 1) := by decide +kernel
theorem dX3_blend_193 : decode cX3_blend 193 = .ok (.aload_n 3, 1) := by decide +kernel
theorem dX3_blend_194 : decode cX3_blend 194 = .ok (.iconst 3, 1) := by decide +kernel
theorem dX3_blend_195 : decode cX3_blend 195 = .ok (.lload 9, 2) := by decide +kernel
theorem dX3_blend_197 : decode cX3_blend 197 = .ok (.l2i, 1) := by decide +kernel
theorem dX3_blend_198 : decode cX3_blend 198 = .ok (.iastore, 1) := by decide +kernel
theorem dX3_blend_199 : decode cX3_blend 199 = .ok (.iinc 8 1, 3) := by decide +kernel
theorem dX3_blend_202 : decode cX3_blend 202 = .ok (.goto (-111), 3) := by decide +kernel
theorem dX3_blend_205 : decode cX3_blend 205 = .ok (.iinc 7 1, 3) := by decide +kernel
theorem dX3_blend_208 : decode cX3_blend 208 = .ok (.goto (-129), 3) := by decide +kernel
theorem dX3_blend_211 : decode cX3_blend 211 = .ok (.iinc 6 1, 3) := by decide +kernel
theorem dX3_blend_214 : decode cX3_blend 214 = .ok (.goto (-150), 3) := by decide +kernel
theorem dX3_blend_217 : decode cX3_blend 217 = .ok (.aload_n 3, 1) := by decide +kernel
theorem dX3_blend_218 : decode cX3_blend 218 = .ok (.iload_n 2, 1) := by decide +kernel
theorem dX3_blend_219 : decode cX3_blend 219 = .ok (.iaload, 1) := by decide +kernel
theorem dX3_blend_220 : decode cX3_blend 220 = .ok (.ireturn, 1) := by decide +kernel
set_option maxRecDepth 20000 in
theorem ggX3_taste_X3_all : GoodIn wsX3_taste wsX3_all := goodIn_r _ [8, 9, 10, 11, 12, 13, 14, 15, 16, 17, 18, 19, 20, 21, 22, 23, 24, 25, 26, 27, 28, 29, 30, 31, 32, 33, 34] (by decide +kernel) (by decide +kernel)
set_option maxRecDepth 20000 in
theorem gX3_taste_X3_all : GoodIn wsX3_taste (wsV RX3 122 RX3 yX3_all wsX3_all) := goodIn_app (goodIn_of _ (by decide +kernel)) ggX3_taste_X3_all
theorem dX3_taste_0 : decode cX3_taste 0 = .ok (.aload_n 0, 1) := by decide +kernel
theorem dX3_taste_1 : decode cX3_taste 1 = .ok (.iconst 0, 1) := by decide +kernel
theorem dX3_taste_2 : decode cX3_taste 2 = .ok (.putfield 67, 3) := by decide +kernel
theorem dX3_taste_5 : decode cX3_taste 5 = .ok (.lconst 0, 1) := by decide +kernel
theorem dX3_taste_6 : decode cX3_taste 6 = .ok (.lstore_n 1, 1) := by decide +kernel
theorem dX3_taste_7 : decode cX3_taste 7 = .ok (.lconst 0, 1) := by decide +kernel
theorem dX3_taste_8 : decode cX3_taste 8 = .ok (.lstore_n 3, 1) := by decide +kernel
theorem dX3_taste_9 : decode cX3_taste 9 = .ok (.iconst 0, 1) := by decide +kernel
theorem dX3_taste_10 : decode cX3_taste 10 = .ok (.istore 5, 2) := by decide +kernel
theorem dX3_taste_12 : decode cX3_taste 12 = .ok (.iload 5, 2) := by decide +kernel
theorem dX3_taste_14 : decode cX3_taste 14 = .ok (.aload_n 0, 1) := by decide +kernel
theorem dX3_taste_15 : decode cX3_taste 15 = .ok (.getfield 110, 3) := by decide +kernel
theorem dX3_taste_18 : decode cX3_taste 18 = .ok (.if_icmp .ge 30, 3) := by decide +kernel
theorem dX3_taste_21 : decode cX3_taste 21 = .ok (.lload_n 1, 1) := by decide +kernel
theorem dX3_taste_22 : decode cX3_taste 22 = .ok (.aload_n 0, 1) := by decide +kernel
theorem dX3_taste_23 : decode cX3_taste 23 = .ok (.getfield 57, 3) := by decide +kernel
theorem dX3_taste_26 : decode cX3_taste 26 = .ok (.iload 5, 2) := by decide +kernel
theorem dX3_taste_28 : decode cX3_taste 28 = .ok (.iaload, 1) := by decide +kernel
theorem dX3_taste_29 : decode cX3_taste 29 = .ok (.i2l, 1) := by decide +kernel
theorem dX3_taste_30 : decode cX3_taste 30 = .ok (.ladd, 1) := by decide +kernel
theorem dX3_taste_31 : decode cX3_taste 31 = .ok (.lstore_n 1, 1) := by decide +kernel
theorem dX3_taste_32 : decode cX3_taste 32 = .ok (.lload_n 3, 1) := by decide +kernel
theorem dX3_taste_33 : decode cX3_taste 33 = .ok (.aload_n 0, 1) := by decide +kernel
theorem dX3_taste_34 : decode cX3_taste 34 = .ok (.iload 5, 2) := by decide +kernel
theorem dX3_taste_36 : decode cX3_taste 36 = .ok (.invokevirtual 122, 3) := by decide +kernel
theorem dX3_taste_39 : decode cX3_taste 39 = .ok (.i2l, 1) := by decide +kernel
theorem dX3_taste_40 : decode cX3_taste 40 = .ok (.ladd, 1) := by decide +kernel
theorem dX3_taste_41 : decode cX3_taste 41 = .ok (.lstore_n 3, 1) := by decide +kernel
theorem dX3_taste_42 : decode cX3_taste 42 = .ok (.iinc 5 1, 3) := by decide +kernel
theorem dX3_taste_45 : decode cX3_taste 45 = .ok (.goto (-33), 3) := by decide +kernel
theorem dX3_taste_48 : decode cX3_taste 48 = .ok (.lload_n 3, 1) := by decide +kernel
theorem dX3_taste_49 : decode cX3_taste 49 = .ok (.lconst 0, 1) := by decide +kernel
theorem dX3_taste_50 : decode cX3_taste 50 = .ok (.lcmp, 1) := by decide +kernel
theorem dX3_taste_51 : decode cX3_taste 51 = .ok (.ifCond .ne 7, 3) := by decide +kernel
theorem dX3_taste_54 : decode cX3_taste 54 = .ok (.dconst 0, 1) := by decide +kernel
theorem dX3_taste_55 : decode cX3_taste 55 = .ok (.goto 8, 3) := by decide +kernel
theorem dX3_taste_58 : decode cX3_taste 58 = .ok (.lload_n 1, 1) := by decide +kernel
theorem dX3_taste_59 : decode cX3_taste 59 = .ok (.l2d, 1) := by decide +kernel
theorem dX3_taste_60 : decode cX3_taste 60 = .ok (.lload_n 3, 1) := by decide +kernel
theorem dX3_taste_61 : decode cX3_taste 61 = .ok (.l2d, 1) := by decide +kernel
theorem dX3_taste_62 : decode cX3_taste 62 = .ok (.ddiv, 1) := by decide +kernel
theorem dX3_taste_63 : decode cX3_taste 63 = .ok (.dreturn, 1) := by decide +kernel
set_option maxRecDepth 20000 in
theorem ggX3_digest_X3_counted : GoodIn wsX3_digest wsX3_counted := goodIn_r _ [15, 4, 16, 9, 17, 18, 19, 20, 5, 21, 22, 23, 24, 25, 14, 26, 63, 64, 65, 66, 67, 68, 69, 70, 71, 72, 73, 74, 75, 76, 77, 78, 79, 80, 81, 82, 83, 84, 85, 86, 87] (by decide +kernel) (by decide +kernel)
set_option maxRecDepth 20000 in
theorem gX3_digest_X3_counted : GoodIn wsX3_digest (wsV RX3 160 RX3 yX3_counted wsX3_counted) := goodIn_app (goodIn_of _ (by decide +kernel)) ggX3_digest_X3_counted
set_option maxRecDepth 20000 in
theorem ggX3_digest_X3_staveTold : GoodIn wsX3_digest wsX3_staveTold := goodIn_r _ [30, 31, 32, 16, 63, 64, 65, 66, 67, 68, 69, 70, 71, 72, 73, 74, 75, 76, 77, 78, 79, 80, 81, 82, 83, 84, 85, 86, 87] (by decide +kernel) (by decide +kernel)
set_option maxRecDepth 20000 in
theorem gX3_digest_X3_staveTold : GoodIn wsX3_digest (wsV RX3 85 RX3 yX3_staveTold wsX3_staveTold) := goodIn_app (goodIn_of _ (by decide +kernel)) ggX3_digest_X3_staveTold
set_option maxRecDepth 20000 in
theorem ggX3_digest_X3_caskTold : GoodIn wsX3_digest wsX3_caskTold := goodIn_r _ [36, 37, 17, 18, 38, 19, 39, 40, 41, 42, 43, 44, 45, 14, 46, 47, 48, 49, 50, 51, 52, 53, 54, 10, 55, 56, 57, 58, 8, 59, 60, 61, 62, 4, 16, 23, 24, 25, 26, 63, 64, 65, 66, 67, 68, 69, 70, 71, 72, 73, 74, 75, 76, 77, 78, 79, 80, 81, 82, 83, 84, 85, 86, 87] (by decide +kernel) (by decide +kernel)
set_option maxRecDepth 20000 in
theorem gX3_digest_X3_caskTold : GoodIn wsX3_digest (wsV RX3 137 RX3 yX3_caskTold wsX3_caskTold) := goodIn_app (goodIn_of _ (by decide +kernel)) ggX3_digest_X3_caskTold
set_option maxRecDepth 20000 in
theorem ggX3_digest_X3_hoopsOf : GoodIn wsX3_digest wsX3_hoopsOf := goodIn_r _ [58, 17, 8, 37, 63, 64, 65, 66, 67, 68, 69, 70, 71, 72, 73, 74, 75, 76, 77, 78, 79, 80, 81, 82, 83, 84, 85, 86, 87] (by decide +kernel) (by decide +kernel)
set_option maxRecDepth 20000 in
theorem gX3_digest_X3_hoopsOf : GoodIn wsX3_digest (wsV RX3 113 RX3 yX3_hoopsOf wsX3_hoopsOf) := goodIn_app (goodIn_of _ (by decide +kernel)) ggX3_digest_X3_hoopsOf
theorem dX3_digest_0 : decode cX3_digest 0 = .ok (.aload_n 0, 1) := by decide +kernel
theorem dX3_digest_1 : decode cX3_digest 1 = .ok (.iconst 0, 1) := by decide +kernel
theorem dX3_digest_2 : decode cX3_digest 2 = .ok (.putfield 67, 3) := by decide +kernel
theorem dX3_digest_5 : decode cX3_digest 5 = .ok (.ldc2_w 190, 3) := by decide +kernel
theorem dX3_digest_8 : decode cX3_digest 8 = .ok (.lstore_n 1, 1) := by decide +kernel
theorem dX3_digest_9 : decode cX3_digest 9 = .ok (.iconst 0, 1) := by decide +kernel
theorem dX3_digest_10 : decode cX3_digest 10 = .ok (.istore_n 3, 1) := by decide +kernel
theorem dX3_digest_11 : decode cX3_digest 11 = .ok (.iload_n 3, 1) := by decide +kernel
theorem dX3_digest_12 : decode cX3_digest 12 = .ok (.bipush 10, 2) := by decide +kernel
theorem dX3_digest_14 : decode cX3_digest 14 = .ok (.if_icmp .ge 22, 3) := by decide +kernel
theorem dX3_digest_17 : decode cX3_digest 17 = .ok (.lload_n 1, 1) := by decide +kernel
theorem dX3_digest_18 : decode cX3_digest 18 = .ok (.ldc2_w 192, 3) := by decide +kernel
theorem dX3_digest_21 : decode cX3_digest 21 = .ok (.lmul, 1) := by decide +kernel
theorem dX3_digest_22 : decode cX3_digest 22 = .ok (.aload_n 0, 1) := by decide +kernel
theorem dX3_digest_23 : decode cX3_digest 23 = .ok (.iload_n 3, 1) := by decide +kernel
theorem dX3_digest_24 : decode cX3_digest 24 = .ok (.invokevirtual 160, 3) := by decide +kernel
theorem dX3_digest_27 : decode cX3_digest 27 = .ok (.i2l, 1) := by decide +kernel
theorem dX3_digest_28 : decode cX3_digest 28 = .ok (.ladd, 1) := by decide +kernel
theorem dX3_digest_29 : decode cX3_digest 29 = .ok (.lstore_n 1, 1) := by decide +kernel
theorem dX3_digest_30 : decode cX3_digest 30 = .ok (.iinc 3 1, 3) := by decide +kernel
theorem dX3_digest_33 : decode cX3_digest 33 = .ok (.goto (-22), 3) := by decide +kernel
theorem dX3_digest_36 : decode cX3_digest 36 = .ok (.iconst 0, 1) := by decide +kernel
theorem dX3_digest_37 : decode cX3_digest 37 = .ok (.istore_n 3, 1) := by decide +kernel
theorem dX3_digest_38 : decode cX3_digest 38 = .ok (.iload_n 3, 1) := by decide +kernel
theorem dX3_digest_39 : decode cX3_digest 39 = .ok (.aload_n 0, 1) := by decide +kernel
theorem dX3_digest_40 : decode cX3_digest 40 = .ok (.getfield 78, 3) := by decide +kernel
theorem dX3_digest_43 : decode cX3_digest 43 = .ok (.if_icmp .ge 39, 3) := by decide +kernel
theorem dX3_digest_46 : decode cX3_digest 46 = .ok (.iconst 0, 1) := by decide +kernel
theorem dX3_digest_47 : decode cX3_digest 47 = .ok (.istore 4, 2) := by decide +kernel
theorem dX3_digest_49 : decode cX3_digest 49 = .ok (.iload 4, 2) := by decide +kernel
theorem dX3_digest_51 : decode cX3_digest 51 = .ok (.iconst 3, 1) := by decide +kernel
theorem dX3_digest_52 : decode cX3_digest 52 = .ok (.if_icmp .ge 24, 3) := by decide +kernel
theorem dX3_digest_55 : decode cX3_digest 55 = .ok (.lload_n 1, 1) := by decide +kernel
theorem dX3_digest_56 : decode cX3_digest 56 = .ok (.ldc2_w 192, 3) := by decide +kernel
theorem dX3_digest_59 : decode cX3_digest 59 = .ok (.lmul, 1) := by decide +kernel
theorem dX3_digest_60 : decode cX3_digest 60 = .ok (.aload_n 0, 1) := by decide +kernel
theorem dX3_digest_61 : decode cX3_digest 61 = .ok (.iload_n 3, 1) := by decide +kernel
