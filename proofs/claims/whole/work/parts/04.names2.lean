theorem dX2_init_122 : decode cX2_init 122 = .ok (.dup, 1) := by decide +kernel
theorem dX2_init_123 : decode cX2_init 123 = .ok (.invokespecial 34, 3) := by decide +kernel
theorem dX2_init_126 : decode cX2_init 126 = .ok (.aastore, 1) := by decide +kernel
theorem dX2_init_127 : decode cX2_init 127 = .ok (.iinc 1 1, 3) := by decide +kernel
theorem dX2_init_130 : decode cX2_init 130 = .ok (.goto (-22), 3) := by decide +kernel
theorem dX2_init_133 : decode cX2_init 133 = .ok (.return_, 1) := by decide +kernel
theorem dX2_addStave_0 : decode cX2_addStave 0 = .ok (.iload_n 1, 1) := by decide +kernel
theorem dX2_addStave_1 : decode cX2_addStave 1 = .ok (.bipush 20, 2) := by decide +kernel
theorem dX2_addStave_3 : decode cX2_addStave 3 = .ok (.if_icmp .lt 9, 3) := by decide +kernel
theorem dX2_addStave_6 : decode cX2_addStave 6 = .ok (.iload_n 1, 1) := by decide +kernel
theorem dX2_addStave_7 : decode cX2_addStave 7 = .ok (.bipush 120, 2) := by decide +kernel
theorem dX2_addStave_9 : decode cX2_addStave 9 = .ok (.if_icmp .le 13, 3) := by decide +kernel
theorem dX2_addStave_12 : decode cX2_addStave 12 = .ok (.new 57, 3) := by decide +kernel
theorem dX2_addStave_15 : decode cX2_addStave 15 = .ok (.dup, 1) := by decide +kernel
theorem dX2_addStave_16 : decode cX2_addStave 16 = .ok (.ldc 59, 2) := by decide +kernel
theorem dX2_addStave_18 : decode cX2_addStave 18 = .ok (.invokespecial 61, 3) := by decide +kernel
theorem dX2_addStave_21 : decode cX2_addStave 21 = .ok (.athrow, 1) := by decide +kernel
theorem dX2_addStave_22 : decode cX2_addStave 22 = .ok (.iload_n 2, 1) := by decide +kernel
theorem dX2_addStave_23 : decode cX2_addStave 23 = .ok (.ifCond .lt 9, 3) := by decide +kernel
theorem dX2_addStave_26 : decode cX2_addStave 26 = .ok (.iload_n 2, 1) := by decide +kernel
theorem dX2_addStave_27 : decode cX2_addStave 27 = .ok (.bipush 100, 2) := by decide +kernel
theorem dX2_addStave_29 : decode cX2_addStave 29 = .ok (.if_icmp .le 13, 3) := by decide +kernel
theorem dX2_addStave_32 : decode cX2_addStave 32 = .ok (.new 57, 3) := by decide +kernel
theorem dX2_addStave_35 : decode cX2_addStave 35 = .ok (.dup, 1) := by decide +kernel
theorem dX2_addStave_36 : decode cX2_addStave 36 = .ok (.ldc 64, 2) := by decide +kernel
theorem dX2_addStave_38 : decode cX2_addStave 38 = .ok (.invokespecial 61, 3) := by decide +kernel
theorem dX2_addStave_41 : decode cX2_addStave 41 = .ok (.athrow, 1) := by decide +kernel
theorem dX2_addStave_42 : decode cX2_addStave 42 = .ok (.aload_n 0, 1) := by decide +kernel
theorem dX2_addStave_43 : decode cX2_addStave 43 = .ok (.getfield 66, 3) := by decide +kernel
theorem dX2_addStave_46 : decode cX2_addStave 46 = .ok (.bipush 60, 2) := by decide +kernel
theorem dX2_addStave_48 : decode cX2_addStave 48 = .ok (.if_icmp .lt 13, 3) := by decide +kernel
theorem dX2_addStave_51 : decode cX2_addStave 51 = .ok (.new 69, 3) := by decide +kernel
theorem dX2_addStave_54 : decode cX2_addStave 54 = .ok (.dup, 1) := by decide +kernel
theorem dX2_addStave_55 : decode cX2_addStave 55 = .ok (.ldc 71, 2) := by decide +kernel
theorem dX2_addStave_57 : decode cX2_addStave 57 = .ok (.invokespecial 73, 3) := by decide +kernel
theorem dX2_addStave_60 : decode cX2_addStave 60 = .ok (.athrow, 1) := by decide +kernel
theorem dX2_addStave_61 : decode cX2_addStave 61 = .ok (.aload_n 0, 1) := by decide +kernel
theorem dX2_addStave_62 : decode cX2_addStave 62 = .ok (.getfield 9, 3) := by decide +kernel
theorem dX2_addStave_65 : decode cX2_addStave 65 = .ok (.aload_n 0, 1) := by decide +kernel
theorem dX2_addStave_66 : decode cX2_addStave 66 = .ok (.getfield 66, 3) := by decide +kernel
theorem dX2_addStave_69 : decode cX2_addStave 69 = .ok (.iload_n 1, 1) := by decide +kernel
theorem dX2_addStave_70 : decode cX2_addStave 70 = .ok (.iastore, 1) := by decide +kernel
theorem dX2_addStave_71 : decode cX2_addStave 71 = .ok (.aload_n 0, 1) := by decide +kernel
theorem dX2_addStave_72 : decode cX2_addStave 72 = .ok (.getfield 13, 3) := by decide +kernel
theorem dX2_addStave_75 : decode cX2_addStave 75 = .ok (.aload_n 0, 1) := by decide +kernel
theorem dX2_addStave_76 : decode cX2_addStave 76 = .ok (.getfield 66, 3) := by decide +kernel
theorem dX2_addStave_79 : decode cX2_addStave 79 = .ok (.iload_n 2, 1) := by decide +kernel
theorem dX2_addStave_80 : decode cX2_addStave 80 = .ok (.iastore, 1) := by decide +kernel
theorem dX2_addStave_81 : decode cX2_addStave 81 = .ok (.aload_n 0, 1) := by decide +kernel
theorem dX2_addStave_82 : decode cX2_addStave 82 = .ok (.getfield 16, 3) := by decide +kernel
theorem dX2_addStave_85 : decode cX2_addStave 85 = .ok (.aload_n 0, 1) := by decide +kernel
theorem dX2_addStave_86 : decode cX2_addStave 86 = .ok (.getfield 66, 3) := by decide +kernel
theorem dX2_addStave_89 : decode cX2_addStave 89 = .ok (.iconst (-1), 1) := by decide +kernel
theorem dX2_addStave_90 : decode cX2_addStave 90 = .ok (.iastore, 1) := by decide +kernel
theorem dX2_addStave_91 : decode cX2_addStave 91 = .ok (.aload_n 0, 1) := by decide +kernel
theorem dX2_addStave_92 : decode cX2_addStave 92 = .ok (.dup, 1) := by decide +kernel
theorem dX2_addStave_93 : decode cX2_addStave 93 = .ok (.getfield 66, 3) := by decide +kernel
theorem dX2_addStave_96 : decode cX2_addStave 96 = .ok (.iconst 1, 1) := by decide +kernel
theorem dX2_addStave_97 : decode cX2_addStave 97 = .ok (.iadd, 1) := by decide +kernel
theorem dX2_addStave_98 : decode cX2_addStave 98 = .ok (.putfield 66, 3) := by decide +kernel
theorem dX2_addStave_101 : decode cX2_addStave 101 = .ok (.aload_n 0, 1) := by decide +kernel
theorem dX2_addStave_102 : decode cX2_addStave 102 = .ok (.getfield 66, 3) := by decide +kernel
theorem dX2_addStave_105 : decode cX2_addStave 105 = .ok (.iconst 1, 1) := by decide +kernel
theorem dX2_addStave_106 : decode cX2_addStave 106 = .ok (.isub, 1) := by decide +kernel
theorem dX2_addStave_107 : decode cX2_addStave 107 = .ok (.ireturn, 1) := by decide +kernel
set_option maxRecDepth 20000 in
theorem ggX2_stave_X2_isStave : GoodIn wsX2_stave wsX2_isStave := goodIn_r _ [10, 11, 12, 13, 14, 15, 16, 17, 18, 19, 20, 21, 22, 23, 24, 25, 26, 27, 28] (by decide +kernel) (by decide +kernel)
set_option maxRecDepth 20000 in
theorem gX2_stave_X2_isStave : GoodIn wsX2_stave (wsV RX2 74 RX2 yX2_isStave wsX2_isStave) := goodIn_app (goodIn_of _ (by decide +kernel)) ggX2_stave_X2_isStave
theorem dX2_stave_0 : decode cX2_stave 0 = .ok (.aload_n 0, 1) := by decide +kernel
theorem dX2_stave_1 : decode cX2_stave 1 = .ok (.iload_n 1, 1) := by decide +kernel
theorem dX2_stave_2 : decode cX2_stave 2 = .ok (.invokevirtual 74, 3) := by decide +kernel
theorem dX2_stave_5 : decode cX2_stave 5 = .ok (.ifCond .ne 13, 3) := by decide +kernel
theorem dX2_stave_8 : decode cX2_stave 8 = .ok (.new 78, 3) := by decide +kernel
theorem dX2_stave_11 : decode cX2_stave 11 = .ok (.dup, 1) := by decide +kernel
theorem dX2_stave_12 : decode cX2_stave 12 = .ok (.ldc 80, 2) := by decide +kernel
theorem dX2_stave_14 : decode cX2_stave 14 = .ok (.invokespecial 82, 3) := by decide +kernel
theorem dX2_stave_17 : decode cX2_stave 17 = .ok (.athrow, 1) := by decide +kernel
theorem dX2_stave_18 : decode cX2_stave 18 = .ok (.iload_n 2, 1) := by decide +kernel
theorem dX2_stave_19 : decode cX2_stave 19 = .ok (.ifCond .lt 8, 3) := by decide +kernel
theorem dX2_stave_22 : decode cX2_stave 22 = .ok (.iload_n 2, 1) := by decide +kernel
theorem dX2_stave_23 : decode cX2_stave 23 = .ok (.iconst 3, 1) := by decide +kernel
theorem dX2_stave_24 : decode cX2_stave 24 = .ok (.if_icmp .lt 13, 3) := by decide +kernel
theorem dX2_stave_27 : decode cX2_stave 27 = .ok (.new 78, 3) := by decide +kernel
theorem dX2_stave_30 : decode cX2_stave 30 = .ok (.dup, 1) := by decide +kernel
theorem dX2_stave_31 : decode cX2_stave 31 = .ok (.ldc 83, 2) := by decide +kernel
theorem dX2_stave_33 : decode cX2_stave 33 = .ok (.invokespecial 82, 3) := by decide +kernel
theorem dX2_stave_36 : decode cX2_stave 36 = .ok (.athrow, 1) := by decide +kernel
theorem dX2_stave_37 : decode cX2_stave 37 = .ok (.iload_n 2, 1) := by decide +kernel
theorem dX2_stave_38 : decode cX2_stave 38 = .ok (.lookupswitch 40 #[(0, 26), (1, 33)], 26) := by decide +kernel
theorem dX2_stave_64 : decode cX2_stave 64 = .ok (.aload_n 0, 1) := by decide +kernel
theorem dX2_stave_65 : decode cX2_stave 65 = .ok (.getfield 9, 3) := by decide +kernel
theorem dX2_stave_68 : decode cX2_stave 68 = .ok (.iload_n 1, 1) := by decide +kernel
theorem dX2_stave_69 : decode cX2_stave 69 = .ok (.iaload, 1) := by decide +kernel
theorem dX2_stave_70 : decode cX2_stave 70 = .ok (.ireturn, 1) := by decide +kernel
theorem dX2_stave_71 : decode cX2_stave 71 = .ok (.aload_n 0, 1) := by decide +kernel
theorem dX2_stave_72 : decode cX2_stave 72 = .ok (.getfield 13, 3) := by decide +kernel
theorem dX2_stave_75 : decode cX2_stave 75 = .ok (.iload_n 1, 1) := by decide +kernel
theorem dX2_stave_76 : decode cX2_stave 76 = .ok (.iaload, 1) := by decide +kernel
theorem dX2_stave_77 : decode cX2_stave 77 = .ok (.ireturn, 1) := by decide +kernel
theorem dX2_stave_78 : decode cX2_stave 78 = .ok (.aload_n 0, 1) := by decide +kernel
theorem dX2_stave_79 : decode cX2_stave 79 = .ok (.getfield 16, 3) := by decide +kernel
theorem dX2_stave_82 : decode cX2_stave 82 = .ok (.iload_n 1, 1) := by decide +kernel
theorem dX2_stave_83 : decode cX2_stave 83 = .ok (.iaload, 1) := by decide +kernel
theorem dX2_stave_84 : decode cX2_stave 84 = .ok (.ireturn, 1) := by decide +kernel
theorem dX2_addSort_0 : decode cX2_addSort 0 = .ok (.iload_n 1, 1) := by decide +kernel
theorem dX2_addSort_1 : decode cX2_addSort 1 = .ok (.sipush 300, 3) := by decide +kernel
theorem dX2_addSort_4 : decode cX2_addSort 4 = .ok (.if_icmp .lt 10, 3) := by decide +kernel
theorem dX2_addSort_7 : decode cX2_addSort 7 = .ok (.iload_n 1, 1) := by decide +kernel
theorem dX2_addSort_8 : decode cX2_addSort 8 = .ok (.sipush 1500, 3) := by decide +kernel
theorem dX2_addSort_11 : decode cX2_addSort 11 = .ok (.if_icmp .le 13, 3) := by decide +kernel
theorem dX2_addSort_14 : decode cX2_addSort 14 = .ok (.new 57, 3) := by decide +kernel
theorem dX2_addSort_17 : decode cX2_addSort 17 = .ok (.dup, 1) := by decide +kernel
theorem dX2_addSort_18 : decode cX2_addSort 18 = .ok (.ldc 85, 2) := by decide +kernel
theorem dX2_addSort_20 : decode cX2_addSort 20 = .ok (.invokespecial 61, 3) := by decide +kernel
theorem dX2_addSort_23 : decode cX2_addSort 23 = .ok (.athrow, 1) := by decide +kernel
theorem dX2_addSort_24 : decode cX2_addSort 24 = .ok (.iload_n 2, 1) := by decide +kernel
theorem dX2_addSort_25 : decode cX2_addSort 25 = .ok (.bipush 100, 2) := by decide +kernel
theorem dX2_addSort_27 : decode cX2_addSort 27 = .ok (.if_icmp .lt 9, 3) := by decide +kernel
theorem dX2_addSort_30 : decode cX2_addSort 30 = .ok (.iload_n 2, 1) := by decide +kernel
theorem dX2_addSort_31 : decode cX2_addSort 31 = .ok (.ldc 87, 2) := by decide +kernel
theorem dX2_addSort_33 : decode cX2_addSort 33 = .ok (.if_icmp .le 13, 3) := by decide +kernel
theorem dX2_addSort_36 : decode cX2_addSort 36 = .ok (.new 57, 3) := by decide +kernel
theorem dX2_addSort_39 : decode cX2_addSort 39 = .ok (.dup, 1) := by decide +kernel
theorem dX2_addSort_40 : decode cX2_addSort 40 = .ok (.ldc 88, 2) := by decide +kernel
theorem dX2_addSort_42 : decode cX2_addSort 42 = .ok (.invokespecial 61, 3) := by decide +kernel
theorem dX2_addSort_45 : decode cX2_addSort 45 = .ok (.athrow, 1) := by decide +kernel
theorem dX2_addSort_46 : decode cX2_addSort 46 = .ok (.iload_n 3, 1) := by decide +kernel
theorem dX2_addSort_47 : decode cX2_addSort 47 = .ok (.iconst 2, 1) := by decide +kernel
theorem dX2_addSort_48 : decode cX2_addSort 48 = .ok (.if_icmp .lt 9, 3) := by decide +kernel
theorem dX2_addSort_51 : decode cX2_addSort 51 = .ok (.iload_n 3, 1) := by decide +kernel
theorem dX2_addSort_52 : decode cX2_addSort 52 = .ok (.bipush 8, 2) := by decide +kernel
theorem dX2_addSort_54 : decode cX2_addSort 54 = .ok (.if_icmp .le 13, 3) := by decide +kernel
theorem dX2_addSort_57 : decode cX2_addSort 57 = .ok (.new 57, 3) := by decide +kernel
theorem dX2_addSort_60 : decode cX2_addSort 60 = .ok (.dup, 1) := by decide +kernel
theorem dX2_addSort_61 : decode cX2_addSort 61 = .ok (.ldc 90, 2) := by decide +kernel
theorem dX2_addSort_63 : decode cX2_addSort 63 = .ok (.invokespecial 61, 3) := by decide +kernel
theorem dX2_addSort_66 : decode cX2_addSort 66 = .ok (.athrow, 1) := by decide +kernel
theorem dX2_addSort_67 : decode cX2_addSort 67 = .ok (.aload_n 0, 1) := by decide +kernel
theorem dX2_addSort_68 : decode cX2_addSort 68 = .ok (.getfield 92, 3) := by decide +kernel
theorem dX2_addSort_71 : decode cX2_addSort 71 = .ok (.bipush 6, 2) := by decide +kernel
theorem dX2_addSort_73 : decode cX2_addSort 73 = .ok (.if_icmp .lt 13, 3) := by decide +kernel
theorem dX2_addSort_76 : decode cX2_addSort 76 = .ok (.new 69, 3) := by decide +kernel
theorem dX2_addSort_79 : decode cX2_addSort 79 = .ok (.dup, 1) := by decide +kernel
theorem dX2_addSort_80 : decode cX2_addSort 80 = .ok (.ldc 95, 2) := by decide +kernel
theorem dX2_addSort_82 : decode cX2_addSort 82 = .ok (.invokespecial 73, 3) := by decide +kernel
theorem dX2_addSort_85 : decode cX2_addSort 85 = .ok (.athrow, 1) := by decide +kernel
theorem dX2_addSort_86 : decode cX2_addSort 86 = .ok (.aload_n 0, 1) := by decide +kernel
theorem dX2_addSort_87 : decode cX2_addSort 87 = .ok (.getfield 19, 3) := by decide +kernel
theorem dX2_addSort_90 : decode cX2_addSort 90 = .ok (.aload_n 0, 1) := by decide +kernel
theorem dX2_addSort_91 : decode cX2_addSort 91 = .ok (.getfield 92, 3) := by decide +kernel
theorem dX2_addSort_94 : decode cX2_addSort 94 = .ok (.iload_n 1, 1) := by decide +kernel
theorem dX2_addSort_95 : decode cX2_addSort 95 = .ok (.iastore, 1) := by decide +kernel
theorem dX2_addSort_96 : decode cX2_addSort 96 = .ok (.aload_n 0, 1) := by decide +kernel
theorem dX2_addSort_97 : decode cX2_addSort 97 = .ok (.getfield 22, 3) := by decide +kernel
theorem dX2_addSort_100 : decode cX2_addSort 100 = .ok (.aload_n 0, 1) := by decide +kernel
theorem dX2_addSort_101 : decode cX2_addSort 101 = .ok (.getfield 92, 3) := by decide +kernel
theorem dX2_addSort_104 : decode cX2_addSort 104 = .ok (.iload_n 2, 1) := by decide +kernel
theorem dX2_addSort_105 : decode cX2_addSort 105 = .ok (.iastore, 1) := by decide +kernel
theorem dX2_addSort_106 : decode cX2_addSort 106 = .ok (.aload_n 0, 1) := by decide +kernel
theorem dX2_addSort_107 : decode cX2_addSort 107 = .ok (.getfield 25, 3) := by decide +kernel
theorem dX2_addSort_110 : decode cX2_addSort 110 = .ok (.aload_n 0, 1) := by decide +kernel
theorem dX2_addSort_111 : decode cX2_addSort 111 = .ok (.getfield 92, 3) := by decide +kernel
theorem dX2_addSort_114 : decode cX2_addSort 114 = .ok (.iload_n 3, 1) := by decide +kernel
theorem dX2_addSort_115 : decode cX2_addSort 115 = .ok (.iastore, 1) := by decide +kernel
theorem dX2_addSort_116 : decode cX2_addSort 116 = .ok (.aload_n 0, 1) := by decide +kernel
theorem dX2_addSort_117 : decode cX2_addSort 117 = .ok (.dup, 1) := by decide +kernel
theorem dX2_addSort_118 : decode cX2_addSort 118 = .ok (.getfield 92, 3) := by decide +kernel
theorem dX2_addSort_121 : decode cX2_addSort 121 = .ok (.iconst 1, 1) := by decide +kernel
theorem dX2_addSort_122 : decode cX2_addSort 122 = .ok (.iadd, 1) := by decide +kernel
theorem dX2_addSort_123 : decode cX2_addSort 123 = .ok (.putfield 92, 3) := by decide +kernel
theorem dX2_addSort_126 : decode cX2_addSort 126 = .ok (.aload_n 0, 1) := by decide +kernel
theorem dX2_addSort_127 : decode cX2_addSort 127 = .ok (.getfield 92, 3) := by decide +kernel
theorem dX2_addSort_130 : decode cX2_addSort 130 = .ok (.iconst 1, 1) := by decide +kernel
theorem dX2_addSort_131 : decode cX2_addSort 131 = .ok (.isub, 1) := by decide +kernel
theorem dX2_addSort_132 : decode cX2_addSort 132 = .ok (.ireturn, 1) := by decide +kernel
set_option maxRecDepth 20000 in
theorem ggX2_choose_X2_isSort : GoodIn wsX2_choose wsX2_isSort := goodIn_r _ [9, 10, 43, 44, 45, 46, 47, 48, 49, 50, 51, 52, 53, 54, 55, 56, 57, 58, 59] (by decide +kernel) (by decide +kernel)
set_option maxRecDepth 20000 in
theorem gX2_choose_X2_isSort : GoodIn wsX2_choose (wsV RX2 97 RX2 yX2_isSort wsX2_isSort) := goodIn_app (goodIn_of _ (by decide +kernel)) ggX2_choose_X2_isSort
set_option maxRecDepth 20000 in
theorem ggX2_choose_X2_findSet : GoodIn wsX2_choose wsX2_findSet := goodIn_r _ [14, 15, 4, 16, 17, 18, 19, 20, 21, 22, 23, 24, 25, 26, 27, 8, 28, 29, 30, 31, 32, 33, 34, 35, 43, 44, 45, 46, 47, 48, 49, 50, 51, 52, 53, 54, 55, 56, 57, 58, 59] (by decide +kernel) (by decide +kernel)
set_option maxRecDepth 20000 in
theorem gX2_choose_X2_findSet : GoodIn wsX2_choose (wsV RX2 104 RX2 yX2_findSet wsX2_findSet) := goodIn_app (goodIn_of _ (by decide +kernel)) ggX2_choose_X2_findSet
set_option maxRecDepth 20000 in
theorem ggX2_choose_X2_memberOf : GoodIn wsX2_choose wsX2_memberOf := goodIn_r _ [39, 17, 40, 41, 8, 42, 43, 44, 45, 46, 47, 48, 49, 50, 51, 52, 53, 54, 55, 56, 57, 58, 59] (by decide +kernel) (by decide +kernel)
set_option maxRecDepth 20000 in
theorem gX2_choose_X2_memberOf : GoodIn wsX2_choose (wsV RX2 110 RX2 yX2_memberOf wsX2_memberOf) := goodIn_app (goodIn_of _ (by decide +kernel)) ggX2_choose_X2_memberOf
theorem dX2_choose_0 : decode cX2_choose 0 = .ok (.aload_n 0, 1) := by decide +kernel
theorem dX2_choose_1 : decode cX2_choose 1 = .ok (.iload_n 1, 1) := by decide +kernel
theorem dX2_choose_2 : decode cX2_choose 2 = .ok (.invokevirtual 97, 3) := by decide +kernel
theorem dX2_choose_5 : decode cX2_choose 5 = .ok (.ifCond .ne 13, 3) := by decide +kernel
theorem dX2_choose_8 : decode cX2_choose 8 = .ok (.new 78, 3) := by decide +kernel
theorem dX2_choose_11 : decode cX2_choose 11 = .ok (.dup, 1) := by decide +kernel
theorem dX2_choose_12 : decode cX2_choose 12 = .ok (.ldc 100, 2) := by decide +kernel
theorem dX2_choose_14 : decode cX2_choose 14 = .ok (.invokespecial 82, 3) := by decide +kernel
theorem dX2_choose_17 : decode cX2_choose 17 = .ok (.athrow, 1) := by decide +kernel
theorem dX2_choose_18 : decode cX2_choose 18 = .ok (.iload_n 2, 1) := by decide +kernel
theorem dX2_choose_19 : decode cX2_choose 19 = .ok (.ifCond .lt 9, 3) := by decide +kernel
theorem dX2_choose_22 : decode cX2_choose 22 = .ok (.iload_n 2, 1) := by decide +kernel
theorem dX2_choose_23 : decode cX2_choose 23 = .ok (.bipush 60, 2) := by decide +kernel
theorem dX2_choose_25 : decode cX2_choose 25 = .ok (.if_icmp .lt 13, 3) := by decide +kernel
theorem dX2_choose_28 : decode cX2_choose 28 = .ok (.new 78, 3) := by decide +kernel
theorem dX2_choose_31 : decode cX2_choose 31 = .ok (.dup, 1) := by decide +kernel
theorem dX2_choose_32 : decode cX2_choose 32 = .ok (.ldc 102, 2) := by decide +kernel
theorem dX2_choose_34 : decode cX2_choose 34 = .ok (.invokespecial 82, 3) := by decide +kernel
theorem dX2_choose_37 : decode cX2_choose 37 = .ok (.athrow, 1) := by decide +kernel
theorem dX2_choose_38 : decode cX2_choose 38 = .ok (.aload_n 0, 1) := by decide +kernel
theorem dX2_choose_39 : decode cX2_choose 39 = .ok (.aload_n 0, 1) := by decide +kernel
theorem dX2_choose_40 : decode cX2_choose 40 = .ok (.getfield 19, 3) := by decide +kernel
theorem dX2_choose_43 : decode cX2_choose 43 = .ok (.iload_n 1, 1) := by decide +kernel
theorem dX2_choose_44 : decode cX2_choose 44 = .ok (.iaload, 1) := by decide +kernel
theorem dX2_choose_45 : decode cX2_choose 45 = .ok (.invokevirtual 104, 3) := by decide +kernel
theorem dX2_choose_48 : decode cX2_choose 48 = .ok (.lstore_n 3, 1) := by decide +kernel
theorem dX2_choose_49 : decode cX2_choose 49 = .ok (.lload_n 3, 1) := by decide +kernel
theorem dX2_choose_50 : decode cX2_choose 50 = .ok (.ldc2_w 108, 3) := by decide +kernel
theorem dX2_choose_53 : decode cX2_choose 53 = .ok (.lcmp, 1) := by decide +kernel
theorem dX2_choose_54 : decode cX2_choose 54 = .ok (.ifCond .ne 7, 3) := by decide +kernel
theorem dX2_choose_57 : decode cX2_choose 57 = .ok (.iconst (-1), 1) := by decide +kernel
theorem dX2_choose_58 : decode cX2_choose 58 = .ok (.goto 9, 3) := by decide +kernel
theorem dX2_choose_61 : decode cX2_choose 61 = .ok (.aload_n 0, 1) := by decide +kernel
theorem dX2_choose_62 : decode cX2_choose 62 = .ok (.lload_n 3, 1) := by decide +kernel
theorem dX2_choose_63 : decode cX2_choose 63 = .ok (.iload_n 2, 1) := by decide +kernel
theorem dX2_choose_64 : decode cX2_choose 64 = .ok (.invokevirtual 110, 3) := by decide +kernel
theorem dX2_choose_67 : decode cX2_choose 67 = .ok (.ireturn, 1) := by decide +kernel
set_option maxRecDepth 20000 in
theorem ggX2_raise_X2_isSort : GoodIn wsX2_raise wsX2_isSort := goodIn_r _ [19, 20, 64, 65, 66, 67, 68, 69, 70, 71, 72, 73, 74, 75, 76, 77, 78, 79, 80] (by decide +kernel) (by decide +kernel)
set_option maxRecDepth 20000 in
theorem gX2_raise_X2_isSort : GoodIn wsX2_raise (wsV RX2 97 RX2 yX2_isSort wsX2_isSort) := goodIn_app (goodIn_of _ (by decide +kernel)) ggX2_raise_X2_isSort
set_option maxRecDepth 20000 in
theorem ggX2_raise_X2_findSet : GoodIn wsX2_raise wsX2_findSet := goodIn_r _ [24, 25, 7, 26, 27, 28, 29, 30, 31, 32, 33, 34, 35, 36, 37, 18, 38, 39, 40, 41, 42, 43, 44, 45, 64, 65, 66, 67, 68, 69, 70, 71, 72, 73, 74, 75, 76, 77, 78, 79, 80] (by decide +kernel) (by decide +kernel)
set_option maxRecDepth 20000 in
theorem gX2_raise_X2_findSet : GoodIn wsX2_raise (wsV RX2 104 RX2 yX2_findSet wsX2_findSet) := goodIn_app (goodIn_of _ (by decide +kernel)) ggX2_raise_X2_findSet
set_option maxRecDepth 20000 in
theorem ggX2_raise_X1_putOnHoops : GoodIn wsX2_raise wsX1_putOnHoops := goodIn_r _ [50, 51, 52, 81, 82, 83, 84, 85, 86, 87, 88, 89, 90, 91] (by decide +kernel) (by decide +kernel)
set_option maxRecDepth 20000 in
theorem gX2_raise_X1_putOnHoops : GoodIn wsX2_raise (wsV RX2 131 RX1 yX1_putOnHoops wsX1_putOnHoops) := goodIn_app (goodIn_of _ (by decide +kernel)) ggX2_raise_X1_putOnHoops
set_option maxRecDepth 20000 in
theorem ggX2_raise_X2_putStavesIn : GoodIn wsX2_raise wsX2_putStavesIn := goodIn_r _ [56, 27, 39, 57, 58, 18, 59, 60, 61, 62, 63, 40, 64, 65, 66, 67, 68, 69, 70, 71, 72, 73, 74, 75, 76, 77, 78, 79, 80] (by decide +kernel) (by decide +kernel)
set_option maxRecDepth 20000 in
theorem gX2_raise_X2_putStavesIn : GoodIn wsX2_raise (wsV RX2 135 RX2 yX2_putStavesIn wsX2_putStavesIn) := goodIn_app (goodIn_of _ (by decide +kernel)) ggX2_raise_X2_putStavesIn
theorem dX2_raise_0 : decode cX2_raise 0 = .ok (.aload_n 0, 1) := by decide +kernel
theorem dX2_raise_1 : decode cX2_raise 1 = .ok (.iload_n 1, 1) := by decide +kernel
theorem dX2_raise_2 : decode cX2_raise 2 = .ok (.invokevirtual 97, 3) := by decide +kernel
theorem dX2_raise_5 : decode cX2_raise 5 = .ok (.ifCond .ne 13, 3) := by decide +kernel
theorem dX2_raise_8 : decode cX2_raise 8 = .ok (.new 78, 3) := by decide +kernel
theorem dX2_raise_11 : decode cX2_raise 11 = .ok (.dup, 1) := by decide +kernel
theorem dX2_raise_12 : decode cX2_raise 12 = .ok (.ldc 100, 2) := by decide +kernel
theorem dX2_raise_14 : decode cX2_raise 14 = .ok (.invokespecial 82, 3) := by decide +kernel
theorem dX2_raise_17 : decode cX2_raise 17 = .ok (.athrow, 1) := by decide +kernel
theorem dX2_raise_18 : decode cX2_raise 18 = .ok (.aload_n 0, 1) := by decide +kernel
theorem dX2_raise_19 : decode cX2_raise 19 = .ok (.getfield 114, 3) := by decide +kernel
theorem dX2_raise_22 : decode cX2_raise 22 = .ok (.bipush 12, 2) := by decide +kernel
theorem dX2_raise_24 : decode cX2_raise 24 = .ok (.if_icmp .lt 13, 3) := by decide +kernel
theorem dX2_raise_27 : decode cX2_raise 27 = .ok (.new 69, 3) := by decide +kernel
theorem dX2_raise_30 : decode cX2_raise 30 = .ok (.dup, 1) := by decide +kernel
theorem dX2_raise_31 : decode cX2_raise 31 = .ok (.ldc 117, 2) := by decide +kernel
theorem dX2_raise_33 : decode cX2_raise 33 = .ok (.invokespecial 73, 3) := by decide +kernel
theorem dX2_raise_36 : decode cX2_raise 36 = .ok (.athrow, 1) := by decide +kernel
theorem dX2_raise_37 : decode cX2_raise 37 = .ok (.aload_n 0, 1) := by decide +kernel
theorem dX2_raise_38 : decode cX2_raise 38 = .ok (.aload_n 0, 1) := by decide +kernel
theorem dX2_raise_39 : decode cX2_raise 39 = .ok (.getfield 19, 3) := by decide +kernel
theorem dX2_raise_42 : decode cX2_raise 42 = .ok (.iload_n 1, 1) := by decide +kernel
theorem dX2_raise_43 : decode cX2_raise 43 = .ok (.iaload, 1) := by decide +kernel
theorem dX2_raise_44 : decode cX2_raise 44 = .ok (.invokevirtual 104, 3) := by decide +kernel
theorem dX2_raise_47 : decode cX2_raise 47 = .ok (.lstore_n 2, 1) := by decide +kernel
theorem dX2_raise_48 : decode cX2_raise 48 = .ok (.lload_n 2, 1) := by decide +kernel
theorem dX2_raise_49 : decode cX2_raise 49 = .ok (.ldc2_w 108, 3) := by decide +kernel
theorem dX2_raise_52 : decode cX2_raise 52 = .ok (.lcmp, 1) := by decide +kernel
theorem dX2_raise_53 : decode cX2_raise 53 = .ok (.ifCond .ne 13, 3) := by decide +kernel
theorem dX2_raise_56 : decode cX2_raise 56 = .ok (.new 69, 3) := by decide +kernel
theorem dX2_raise_59 : decode cX2_raise 59 = .ok (.dup, 1) := by decide +kernel
theorem dX2_raise_60 : decode cX2_raise 60 = .ok (.ldc 119, 2) := by decide +kernel
theorem dX2_raise_62 : decode cX2_raise 62 = .ok (.invokespecial 73, 3) := by decide +kernel
theorem dX2_raise_65 : decode cX2_raise 65 = .ok (.athrow, 1) := by decide +kernel
theorem dX2_raise_66 : decode cX2_raise 66 = .ok (.aload_n 0, 1) := by decide +kernel
theorem dX2_raise_67 : decode cX2_raise 67 = .ok (.getfield 30, 3) := by decide +kernel
theorem dX2_raise_70 : decode cX2_raise 70 = .ok (.aload_n 0, 1) := by decide +kernel
theorem dX2_raise_71 : decode cX2_raise 71 = .ok (.getfield 114, 3) := by decide +kernel
theorem dX2_raise_74 : decode cX2_raise 74 = .ok (.aaload, 1) := by decide +kernel
theorem dX2_raise_75 : decode cX2_raise 75 = .ok (.astore 4, 2) := by decide +kernel
theorem dX2_raise_77 : decode cX2_raise 77 = .ok (.aload 4, 2) := by decide +kernel
theorem dX2_raise_79 : decode cX2_raise 79 = .ok (.iload_n 1, 1) := by decide +kernel
theorem dX2_raise_80 : decode cX2_raise 80 = .ok (.putfield 121, 3) := by decide +kernel
theorem dX2_raise_83 : decode cX2_raise 83 = .ok (.aload 4, 2) := by decide +kernel
theorem dX2_raise_85 : decode cX2_raise 85 = .ok (.aload_n 0, 1) := by decide +kernel
theorem dX2_raise_86 : decode cX2_raise 86 = .ok (.getfield 22, 3) := by decide +kernel
theorem dX2_raise_89 : decode cX2_raise 89 = .ok (.iload_n 1, 1) := by decide +kernel
theorem dX2_raise_90 : decode cX2_raise 90 = .ok (.iaload, 1) := by decide +kernel
theorem dX2_raise_91 : decode cX2_raise 91 = .ok (.putfield 124, 3) := by decide +kernel
theorem dX2_raise_94 : decode cX2_raise 94 = .ok (.aload 4, 2) := by decide +kernel
theorem dX2_raise_96 : decode cX2_raise 96 = .ok (.iconst 1, 1) := by decide +kernel
theorem dX2_raise_97 : decode cX2_raise 97 = .ok (.putfield 127, 3) := by decide +kernel
theorem dX2_raise_100 : decode cX2_raise 100 = .ok (.aload 4, 2) := by decide +kernel
theorem dX2_raise_102 : decode cX2_raise 102 = .ok (.aload_n 0, 1) := by decide +kernel
theorem dX2_raise_103 : decode cX2_raise 103 = .ok (.getfield 25, 3) := by decide +kernel
theorem dX2_raise_106 : decode cX2_raise 106 = .ok (.iload_n 1, 1) := by decide +kernel
theorem dX2_raise_107 : decode cX2_raise 107 = .ok (.iaload, 1) := by decide +kernel
theorem dX2_raise_108 : decode cX2_raise 108 = .ok (.invokevirtual 131, 3) := by decide +kernel
theorem dX2_raise_111 : decode cX2_raise 111 = .ok (.aload 4, 2) := by decide +kernel
theorem dX2_raise_113 : decode cX2_raise 113 = .ok (.aload_n 0, 1) := by decide +kernel
theorem dX2_raise_114 : decode cX2_raise 114 = .ok (.lload_n 2, 1) := by decide +kernel
theorem dX2_raise_115 : decode cX2_raise 115 = .ok (.aload_n 0, 1) := by decide +kernel
theorem dX2_raise_116 : decode cX2_raise 116 = .ok (.getfield 114, 3) := by decide +kernel
theorem dX2_raise_119 : decode cX2_raise 119 = .ok (.invokevirtual 135, 3) := by decide +kernel
theorem dX2_raise_122 : decode cX2_raise 122 = .ok (.putfield 138, 3) := by decide +kernel
theorem dX2_raise_125 : decode cX2_raise 125 = .ok (.aload_n 0, 1) := by decide +kernel
theorem dX2_raise_126 : decode cX2_raise 126 = .ok (.dup, 1) := by decide +kernel
theorem dX2_raise_127 : decode cX2_raise 127 = .ok (.getfield 114, 3) := by decide +kernel
theorem dX2_raise_130 : decode cX2_raise 130 = .ok (.iconst 1, 1) := by decide +kernel
theorem dX2_raise_131 : decode cX2_raise 131 = .ok (.iadd, 1) := by decide +kernel
theorem dX2_raise_132 : decode cX2_raise 132 = .ok (.putfield 114, 3) := by decide +kernel
theorem dX2_raise_135 : decode cX2_raise 135 = .ok (.aload_n 0, 1) := by decide +kernel
theorem dX2_raise_136 : decode cX2_raise 136 = .ok (.getfield 114, 3) := by decide +kernel
theorem dX2_raise_139 : decode cX2_raise 139 = .ok (.iconst 1, 1) := by decide +kernel
theorem dX2_raise_140 : decode cX2_raise 140 = .ok (.isub, 1) := by decide +kernel
theorem dX2_raise_141 : decode cX2_raise 141 = .ok (.ireturn, 1) := by decide +kernel
set_option maxRecDepth 20000 in
theorem ggX2_drive_X2_isCask : GoodIn wsX2_drive wsX2_isCask := goodIn_r _ [17, 18, 25, 26, 27, 28, 29, 30, 31, 32, 33, 34, 35, 36, 37, 38, 39, 40, 41] (by decide +kernel) (by decide +kernel)
set_option maxRecDepth 20000 in
theorem gX2_drive_X2_isCask : GoodIn wsX2_drive (wsV RX2 141 RX2 yX2_isCask wsX2_isCask) := goodIn_app (goodIn_of _ (by decide +kernel)) ggX2_drive_X2_isCask
set_option maxRecDepth 20000 in
theorem ggX2_drive_X1_allTensions : GoodIn wsX2_drive wsX1_allTensions := goodIn_r _ [23, 24, 42, 43, 44, 45, 46, 47, 48, 49, 50, 51, 52] (by decide +kernel) (by decide +kernel)
set_option maxRecDepth 20000 in
theorem gX2_drive_X1_allTensions : GoodIn wsX2_drive (wsV RX2 162 RX1 yX1_allTensions wsX1_allTensions) := goodIn_app (goodIn_of _ (by decide +kernel)) ggX2_drive_X1_allTensions
theorem dX2_drive_0 : decode cX2_drive 0 = .ok (.aload_n 0, 1) := by decide +kernel
theorem dX2_drive_1 : decode cX2_drive 1 = .ok (.iload_n 1, 1) := by decide +kernel
theorem dX2_drive_2 : decode cX2_drive 2 = .ok (.invokevirtual 141, 3) := by decide +kernel
theorem dX2_drive_5 : decode cX2_drive 5 = .ok (.ifCond .ne 13, 3) := by decide +kernel
theorem dX2_drive_8 : decode cX2_drive 8 = .ok (.new 78, 3) := by decide +kernel
theorem dX2_drive_11 : decode cX2_drive 11 = .ok (.dup, 1) := by decide +kernel
theorem dX2_drive_12 : decode cX2_drive 12 = .ok (.ldc 144, 2) := by decide +kernel
theorem dX2_drive_14 : decode cX2_drive 14 = .ok (.invokespecial 82, 3) := by decide +kernel
theorem dX2_drive_17 : decode cX2_drive 17 = .ok (.athrow, 1) := by decide +kernel
theorem dX2_drive_18 : decode cX2_drive 18 = .ok (.aload_n 0, 1) := by decide +kernel
theorem dX2_drive_19 : decode cX2_drive 19 = .ok (.getfield 30, 3) := by decide +kernel
theorem dX2_drive_22 : decode cX2_drive 22 = .ok (.iload_n 1, 1) := by decide +kernel
theorem dX2_drive_23 : decode cX2_drive 23 = .ok (.aaload, 1) := by decide +kernel
theorem dX2_drive_24 : decode cX2_drive 24 = .ok (.astore 4, 2) := by decide +kernel
theorem dX2_drive_26 : decode cX2_drive 26 = .ok (.iload_n 2, 1) := by decide +kernel
theorem dX2_drive_27 : decode cX2_drive 27 = .ok (.ifCond .lt 12, 3) := by decide +kernel
theorem dX2_drive_30 : decode cX2_drive 30 = .ok (.iload_n 2, 1) := by decide +kernel
theorem dX2_drive_31 : decode cX2_drive 31 = .ok (.aload 4, 2) := by decide +kernel
theorem dX2_drive_33 : decode cX2_drive 33 = .ok (.getfield 146, 3) := by decide +kernel
theorem dX2_drive_36 : decode cX2_drive 36 = .ok (.if_icmp .lt 13, 3) := by decide +kernel
theorem dX2_drive_39 : decode cX2_drive 39 = .ok (.new 78, 3) := by decide +kernel
theorem dX2_drive_42 : decode cX2_drive 42 = .ok (.dup, 1) := by decide +kernel
theorem dX2_drive_43 : decode cX2_drive 43 = .ok (.ldc 149, 2) := by decide +kernel
theorem dX2_drive_45 : decode cX2_drive 45 = .ok (.invokespecial 82, 3) := by decide +kernel
theorem dX2_drive_48 : decode cX2_drive 48 = .ok (.athrow, 1) := by decide +kernel
theorem dX2_drive_49 : decode cX2_drive 49 = .ok (.iload_n 3, 1) := by decide +kernel
theorem dX2_drive_50 : decode cX2_drive 50 = .ok (.iconst 1, 1) := by decide +kernel
theorem dX2_drive_51 : decode cX2_drive 51 = .ok (.if_icmp .lt 9, 3) := by decide +kernel
theorem dX2_drive_54 : decode cX2_drive 54 = .ok (.iload_n 3, 1) := by decide +kernel
theorem dX2_drive_55 : decode cX2_drive 55 = .ok (.bipush 9, 2) := by decide +kernel
theorem dX2_drive_57 : decode cX2_drive 57 = .ok (.if_icmp .le 13, 3) := by decide +kernel
theorem dX2_drive_60 : decode cX2_drive 60 = .ok (.new 57, 3) := by decide +kernel
theorem dX2_drive_63 : decode cX2_drive 63 = .ok (.dup, 1) := by decide +kernel
theorem dX2_drive_64 : decode cX2_drive 64 = .ok (.ldc 151, 2) := by decide +kernel
theorem dX2_drive_66 : decode cX2_drive 66 = .ok (.invokespecial 61, 3) := by decide +kernel
theorem dX2_drive_69 : decode cX2_drive 69 = .ok (.athrow, 1) := by decide +kernel
theorem dX2_drive_70 : decode cX2_drive 70 = .ok (.aload 4, 2) := by decide +kernel
theorem dX2_drive_72 : decode cX2_drive 72 = .ok (.getfield 153, 3) := by decide +kernel
theorem dX2_drive_75 : decode cX2_drive 75 = .ok (.iload_n 2, 1) := by decide +kernel
theorem dX2_drive_76 : decode cX2_drive 76 = .ok (.bipush 9, 2) := by decide +kernel
theorem dX2_drive_78 : decode cX2_drive 78 = .ok (.aload 4, 2) := by decide +kernel
theorem dX2_drive_80 : decode cX2_drive 80 = .ok (.getfield 153, 3) := by decide +kernel
theorem dX2_drive_83 : decode cX2_drive 83 = .ok (.iload_n 2, 1) := by decide +kernel
theorem dX2_drive_84 : decode cX2_drive 84 = .ok (.iaload, 1) := by decide +kernel
theorem dX2_drive_85 : decode cX2_drive 85 = .ok (.iload_n 3, 1) := by decide +kernel
theorem dX2_drive_86 : decode cX2_drive 86 = .ok (.iadd, 1) := by decide +kernel
theorem dX2_drive_87 : decode cX2_drive 87 = .ok (.invokestatic 156, 3) := by decide +kernel
theorem dX2_drive_90 : decode cX2_drive 90 = .ok (.iastore, 1) := by decide +kernel
theorem dX2_drive_91 : decode cX2_drive 91 = .ok (.aload 4, 2) := by decide +kernel
theorem dX2_drive_93 : decode cX2_drive 93 = .ok (.invokevirtual 162, 3) := by decide +kernel
theorem dX2_drive_96 : decode cX2_drive 96 = .ok (.iconst 5, 1) := by decide +kernel
theorem dX2_drive_97 : decode cX2_drive 97 = .ok (.aload 4, 2) := by decide +kernel
theorem dX2_drive_99 : decode cX2_drive 99 = .ok (.getfield 146, 3) := by decide +kernel
theorem dX2_drive_102 : decode cX2_drive 102 = .ok (.imul, 1) := by decide +kernel
theorem dX2_drive_103 : decode cX2_drive 103 = .ok (.if_icmp .le 14, 3) := by decide +kernel
theorem dX2_drive_106 : decode cX2_drive 106 = .ok (.aload 4, 2) := by decide +kernel
theorem dX2_drive_108 : decode cX2_drive 108 = .ok (.dup, 1) := by decide +kernel
theorem dX2_drive_109 : decode cX2_drive 109 = .ok (.getfield 138, 3) := by decide +kernel
theorem dX2_drive_112 : decode cX2_drive 112 = .ok (.iconst 1, 1) := by decide +kernel
theorem dX2_drive_113 : decode cX2_drive 113 = .ok (.iadd, 1) := by decide +kernel
theorem dX2_drive_114 : decode cX2_drive 114 = .ok (.putfield 138, 3) := by decide +kernel
theorem dX2_drive_117 : decode cX2_drive 117 = .ok (.aload 4, 2) := by decide +kernel
theorem dX2_drive_119 : decode cX2_drive 119 = .ok (.getfield 153, 3) := by decide +kernel
theorem dX2_drive_122 : decode cX2_drive 122 = .ok (.iload_n 2, 1) := by decide +kernel
theorem dX2_drive_123 : decode cX2_drive 123 = .ok (.iaload, 1) := by decide +kernel
theorem dX2_drive_124 : decode cX2_drive 124 = .ok (.ireturn, 1) := by decide +kernel
set_option maxRecDepth 20000 in
theorem ggX2_mend_X2_isCask : GoodIn wsX2_mend wsX2_isCask := goodIn_r _ [14, 15, 36, 37, 38, 39, 40, 41, 42, 43, 44, 45, 46, 47, 48, 49, 50, 51, 52] (by decide +kernel) (by decide +kernel)
set_option maxRecDepth 20000 in
theorem gX2_mend_X2_isCask : GoodIn wsX2_mend (wsV RX2 141 RX2 yX2_isCask wsX2_isCask) := goodIn_app (goodIn_of _ (by decide +kernel)) ggX2_mend_X2_isCask
set_option maxRecDepth 20000 in
theorem ggX2_mend_X2_isStave : GoodIn wsX2_mend wsX2_isStave := goodIn_r _ [19, 20, 36, 37, 38, 39, 40, 41, 42, 43, 44, 45, 46, 47, 48, 49, 50, 51, 52] (by decide +kernel) (by decide +kernel)
set_option maxRecDepth 20000 in
theorem gX2_mend_X2_isStave : GoodIn wsX2_mend (wsV RX2 74 RX2 yX2_isStave wsX2_isStave) := goodIn_app (goodIn_of _ (by decide +kernel)) ggX2_mend_X2_isStave
set_option maxRecDepth 20000 in
theorem ggX2_mend_X2_lastStaveIn : GoodIn wsX2_mend wsX2_lastStaveIn := goodIn_r _ [24, 20, 7, 36, 37, 38, 39, 40, 41, 42, 43, 44, 45, 46, 47, 48, 49, 50, 51, 52] (by decide +kernel) (by decide +kernel)
set_option maxRecDepth 20000 in
theorem gX2_mend_X2_lastStaveIn : GoodIn wsX2_mend (wsV RX2 166 RX2 yX2_lastStaveIn wsX2_lastStaveIn) := goodIn_app (goodIn_of _ (by decide +kernel)) ggX2_mend_X2_lastStaveIn
set_option maxRecDepth 20000 in
theorem ggX2_mend_X1_held : GoodIn wsX2_mend wsX1_held := goodIn_r _ [29, 30, 53, 54, 55, 56, 57, 58, 59, 60, 61, 62, 63] (by decide +kernel) (by decide +kernel)
set_option maxRecDepth 20000 in
theorem gX2_mend_X1_held : GoodIn wsX2_mend (wsV RX2 172 RX1 yX1_held wsX1_held) := goodIn_app (goodIn_of _ (by decide +kernel)) ggX2_mend_X1_held
set_option maxRecDepth 20000 in
theorem ggX2_mend_X2_flawsOf : GoodIn wsX2_mend wsX2_flawsOf := goodIn_r _ [34, 35, 36, 37, 38, 39, 40, 41, 42, 43, 44, 45, 46, 47, 48, 49, 50, 51, 52] (by decide +kernel) (by decide +kernel)
set_option maxRecDepth 20000 in
theorem gX2_mend_X2_flawsOf : GoodIn wsX2_mend (wsV RX2 181 RX2 yX2_flawsOf wsX2_flawsOf) := goodIn_app (goodIn_of _ (by decide +kernel)) ggX2_mend_X2_flawsOf
theorem dX2_mend_0 : decode cX2_mend 0 = .ok (.aload_n 0, 1) := by decide +kernel
theorem dX2_mend_1 : decode cX2_mend 1 = .ok (.iload_n 1, 1) := by decide +kernel
theorem dX2_mend_2 : decode cX2_mend 2 = .ok (.invokevirtual 141, 3) := by decide +kernel
theorem dX2_mend_5 : decode cX2_mend 5 = .ok (.ifCond .ne 13, 3) := by decide +kernel
theorem dX2_mend_8 : decode cX2_mend 8 = .ok (.new 78, 3) := by decide +kernel
theorem dX2_mend_11 : decode cX2_mend 11 = .ok (.dup, 1) := by decide +kernel
theorem dX2_mend_12 : decode cX2_mend 12 = .ok (.ldc 144, 2) := by decide +kernel
theorem dX2_mend_14 : decode cX2_mend 14 = .ok (.invokespecial 82, 3) := by decide +kernel
theorem dX2_mend_17 : decode cX2_mend 17 = .ok (.athrow, 1) := by decide +kernel
theorem dX2_mend_18 : decode cX2_mend 18 = .ok (.aload_n 0, 1) := by decide +kernel
theorem dX2_mend_19 : decode cX2_mend 19 = .ok (.iload_n 2, 1) := by decide +kernel
theorem dX2_mend_20 : decode cX2_mend 20 = .ok (.invokevirtual 74, 3) := by decide +kernel
theorem dX2_mend_23 : decode cX2_mend 23 = .ok (.ifCond .ne 13, 3) := by decide +kernel
theorem dX2_mend_26 : decode cX2_mend 26 = .ok (.new 78, 3) := by decide +kernel
theorem dX2_mend_29 : decode cX2_mend 29 = .ok (.dup, 1) := by decide +kernel
theorem dX2_mend_30 : decode cX2_mend 30 = .ok (.ldc 80, 2) := by decide +kernel
theorem dX2_mend_32 : decode cX2_mend 32 = .ok (.invokespecial 82, 3) := by decide +kernel
theorem dX2_mend_35 : decode cX2_mend 35 = .ok (.athrow, 1) := by decide +kernel
theorem dX2_mend_36 : decode cX2_mend 36 = .ok (.aload_n 0, 1) := by decide +kernel
theorem dX2_mend_37 : decode cX2_mend 37 = .ok (.getfield 30, 3) := by decide +kernel
theorem dX2_mend_40 : decode cX2_mend 40 = .ok (.iload_n 1, 1) := by decide +kernel
theorem dX2_mend_41 : decode cX2_mend 41 = .ok (.aaload, 1) := by decide +kernel
theorem dX2_mend_42 : decode cX2_mend 42 = .ok (.astore_n 3, 1) := by decide +kernel
theorem dX2_mend_43 : decode cX2_mend 43 = .ok (.aload_n 0, 1) := by decide +kernel
theorem dX2_mend_44 : decode cX2_mend 44 = .ok (.iload_n 1, 1) := by decide +kernel
theorem dX2_mend_45 : decode cX2_mend 45 = .ok (.invokevirtual 166, 3) := by decide +kernel
theorem dX2_mend_48 : decode cX2_mend 48 = .ok (.istore 4, 2) := by decide +kernel
theorem dX2_mend_50 : decode cX2_mend 50 = .ok (.aload_n 3, 1) := by decide +kernel
theorem dX2_mend_51 : decode cX2_mend 51 = .ok (.getfield 127, 3) := by decide +kernel
theorem dX2_mend_54 : decode cX2_mend 54 = .ok (.ifCond .eq 9, 3) := by decide +kernel
theorem dX2_mend_57 : decode cX2_mend 57 = .ok (.iload 4, 2) := by decide +kernel
theorem dX2_mend_59 : decode cX2_mend 59 = .ok (.iconst (-1), 1) := by decide +kernel
theorem dX2_mend_60 : decode cX2_mend 60 = .ok (.if_icmp .ne 13, 3) := by decide +kernel
theorem dX2_mend_63 : decode cX2_mend 63 = .ok (.new 69, 3) := by decide +kernel
theorem dX2_mend_66 : decode cX2_mend 66 = .ok (.dup, 1) := by decide +kernel
theorem dX2_mend_67 : decode cX2_mend 67 = .ok (.ldc 170, 2) := by decide +kernel
theorem dX2_mend_69 : decode cX2_mend 69 = .ok (.invokespecial 73, 3) := by decide +kernel
theorem dX2_mend_72 : decode cX2_mend 72 = .ok (.athrow, 1) := by decide +kernel
theorem dX2_mend_73 : decode cX2_mend 73 = .ok (.aload_n 3, 1) := by decide +kernel
theorem dX2_mend_74 : decode cX2_mend 74 = .ok (.invokevirtual 172, 3) := by decide +kernel
theorem dX2_mend_77 : decode cX2_mend 77 = .ok (.ifCond .le 13, 3) := by decide +kernel
theorem dX2_mend_80 : decode cX2_mend 80 = .ok (.new 69, 3) := by decide +kernel
theorem dX2_mend_83 : decode cX2_mend 83 = .ok (.dup, 1) := by decide +kernel
theorem dX2_mend_84 : decode cX2_mend 84 = .ok (.ldc 175, 2) := by decide +kernel
theorem dX2_mend_86 : decode cX2_mend 86 = .ok (.invokespecial 73, 3) := by decide +kernel
theorem dX2_mend_89 : decode cX2_mend 89 = .ok (.athrow, 1) := by decide +kernel
theorem dX2_mend_90 : decode cX2_mend 90 = .ok (.aload_n 0, 1) := by decide +kernel
theorem dX2_mend_91 : decode cX2_mend 91 = .ok (.getfield 16, 3) := by decide +kernel
theorem dX2_mend_94 : decode cX2_mend 94 = .ok (.iload_n 2, 1) := by decide +kernel
theorem dX2_mend_95 : decode cX2_mend 95 = .ok (.iaload, 1) := by decide +kernel
theorem dX2_mend_96 : decode cX2_mend 96 = .ok (.iconst (-1), 1) := by decide +kernel
theorem dX2_mend_97 : decode cX2_mend 97 = .ok (.if_icmp .eq 13, 3) := by decide +kernel
theorem dX2_mend_100 : decode cX2_mend 100 = .ok (.new 69, 3) := by decide +kernel
theorem dX2_mend_103 : decode cX2_mend 103 = .ok (.dup, 1) := by decide +kernel
theorem dX2_mend_104 : decode cX2_mend 104 = .ok (.ldc 177, 2) := by decide +kernel
theorem dX2_mend_106 : decode cX2_mend 106 = .ok (.invokespecial 73, 3) := by decide +kernel
theorem dX2_mend_109 : decode cX2_mend 109 = .ok (.athrow, 1) := by decide +kernel
theorem dX2_mend_110 : decode cX2_mend 110 = .ok (.aload_n 0, 1) := by decide +kernel
theorem dX2_mend_111 : decode cX2_mend 111 = .ok (.getfield 9, 3) := by decide +kernel
theorem dX2_mend_114 : decode cX2_mend 114 = .ok (.iload_n 2, 1) := by decide +kernel
theorem dX2_mend_115 : decode cX2_mend 115 = .ok (.iaload, 1) := by decide +kernel
theorem dX2_mend_116 : decode cX2_mend 116 = .ok (.aload_n 0, 1) := by decide +kernel
theorem dX2_mend_117 : decode cX2_mend 117 = .ok (.getfield 9, 3) := by decide +kernel
theorem dX2_mend_120 : decode cX2_mend 120 = .ok (.iload 4, 2) := by decide +kernel
theorem dX2_mend_122 : decode cX2_mend 122 = .ok (.iaload, 1) := by decide +kernel
theorem dX2_mend_123 : decode cX2_mend 123 = .ok (.if_icmp .eq 13, 3) := by decide +kernel
theorem dX2_mend_126 : decode cX2_mend 126 = .ok (.new 69, 3) := by decide +kernel
theorem dX2_mend_129 : decode cX2_mend 129 = .ok (.dup, 1) := by decide +kernel
theorem dX2_mend_130 : decode cX2_mend 130 = .ok (.ldc 179, 2) := by decide +kernel
theorem dX2_mend_132 : decode cX2_mend 132 = .ok (.invokespecial 73, 3) := by decide +kernel
theorem dX2_mend_135 : decode cX2_mend 135 = .ok (.athrow, 1) := by decide +kernel
theorem dX2_mend_136 : decode cX2_mend 136 = .ok (.aload_n 3, 1) := by decide +kernel
theorem dX2_mend_137 : decode cX2_mend 137 = .ok (.getfield 138, 3) := by decide +kernel
theorem dX2_mend_140 : decode cX2_mend 140 = .ok (.istore 5, 2) := by decide +kernel
theorem dX2_mend_142 : decode cX2_mend 142 = .ok (.aload_n 0, 1) := by decide +kernel
theorem dX2_mend_143 : decode cX2_mend 143 = .ok (.getfield 16, 3) := by decide +kernel
theorem dX2_mend_146 : decode cX2_mend 146 = .ok (.iload 4, 2) := by decide +kernel
theorem dX2_mend_148 : decode cX2_mend 148 = .ok (.bipush (-2), 2) := by decide +kernel
theorem dX2_mend_150 : decode cX2_mend 150 = .ok (.iastore, 1) := by decide +kernel
theorem dX2_mend_151 : decode cX2_mend 151 = .ok (.aload_n 0, 1) := by decide +kernel
theorem dX2_mend_152 : decode cX2_mend 152 = .ok (.getfield 16, 3) := by decide +kernel
theorem dX2_mend_155 : decode cX2_mend 155 = .ok (.iload_n 2, 1) := by decide +kernel
theorem dX2_mend_156 : decode cX2_mend 156 = .ok (.iload_n 1, 1) := by decide +kernel
theorem dX2_mend_157 : decode cX2_mend 157 = .ok (.iastore, 1) := by decide +kernel
theorem dX2_mend_158 : decode cX2_mend 158 = .ok (.aload_n 3, 1) := by decide +kernel
theorem dX2_mend_159 : decode cX2_mend 159 = .ok (.aload_n 0, 1) := by decide +kernel
theorem dX2_mend_160 : decode cX2_mend 160 = .ok (.iload_n 2, 1) := by decide +kernel
theorem dX2_mend_161 : decode cX2_mend 161 = .ok (.invokevirtual 181, 3) := by decide +kernel
theorem dX2_mend_164 : decode cX2_mend 164 = .ok (.putfield 138, 3) := by decide +kernel
theorem dX2_mend_167 : decode cX2_mend 167 = .ok (.iload 5, 2) := by decide +kernel
theorem dX2_mend_169 : decode cX2_mend 169 = .ok (.ireturn, 1) := by decide +kernel
set_option maxRecDepth 20000 in
theorem ggX2_breakUp_X2_isCask : GoodIn wsX2_breakUp wsX2_isCask := goodIn_r _ [11, 12, 46, 47, 48, 49, 50, 51, 52, 53, 54, 55, 56, 57, 58, 59, 60, 61, 62] (by decide +kernel) (by decide +kernel)
set_option maxRecDepth 20000 in
theorem gX2_breakUp_X2_isCask : GoodIn wsX2_breakUp (wsV RX2 141 RX2 yX2_isCask wsX2_isCask) := goodIn_app (goodIn_of _ (by decide +kernel)) ggX2_breakUp_X2_isCask
set_option maxRecDepth 20000 in
theorem ggX2_breakUp_X1_held : GoodIn wsX2_breakUp wsX1_held := goodIn_r _ [17, 18, 63, 64, 65, 66, 67, 68, 69, 70, 71, 72, 73] (by decide +kernel) (by decide +kernel)
set_option maxRecDepth 20000 in
theorem gX2_breakUp_X1_held : GoodIn wsX2_breakUp (wsV RX2 172 RX1 yX1_held wsX1_held) := goodIn_app (goodIn_of _ (by decide +kernel)) ggX2_breakUp_X1_held
set_option maxRecDepth 20000 in
theorem ggX2_breakUp_X2_takeStavesOutOf : GoodIn wsX2_breakUp wsX2_takeStavesOutOf := goodIn_r _ [22, 23, 24, 25, 26, 27, 28, 29, 46, 47, 48, 49, 50, 51, 52, 53, 54, 55, 56, 57, 58, 59, 60, 61, 62] (by decide +kernel) (by decide +kernel)
set_option maxRecDepth 20000 in
theorem gX2_breakUp_X2_takeStavesOutOf : GoodIn wsX2_breakUp (wsV RX2 186 RX2 yX2_takeStavesOutOf wsX2_takeStavesOutOf) := goodIn_app (goodIn_of _ (by decide +kernel)) ggX2_breakUp_X2_takeStavesOutOf
set_option maxRecDepth 20000 in
theorem ggX2_breakUp_X1_clear : GoodIn wsX2_breakUp wsX1_clear := goodIn_r _ [33, 34, 35, 36, 37, 38, 39, 40, 41, 18, 42, 43, 44, 45, 63, 64, 65, 66, 67, 68, 69, 70, 71, 72, 73] (by decide +kernel) (by decide +kernel)
set_option maxRecDepth 20000 in
theorem gX2_breakUp_X1_clear : GoodIn wsX2_breakUp (wsV RX2 189 RX1 yX1_clear wsX1_clear) := goodIn_app (goodIn_of _ (by decide +kernel)) ggX2_breakUp_X1_clear
theorem dX2_breakUp_0 : decode cX2_breakUp 0 = .ok (.aload_n 0, 1) := by decide +kernel
theorem dX2_breakUp_1 : decode cX2_breakUp 1 = .ok (.iload_n 1, 1) := by decide +kernel
theorem dX2_breakUp_2 : decode cX2_breakUp 2 = .ok (.invokevirtual 141, 3) := by decide +kernel
theorem dX2_breakUp_5 : decode cX2_breakUp 5 = .ok (.ifCond .ne 13, 3) := by decide +kernel
theorem dX2_breakUp_8 : decode cX2_breakUp 8 = .ok (.new 78, 3) := by decide +kernel
theorem dX2_breakUp_11 : decode cX2_breakUp 11 = .ok (.dup, 1) := by decide +kernel
theorem dX2_breakUp_12 : decode cX2_breakUp 12 = .ok (.ldc 144, 2) := by decide +kernel
theorem dX2_breakUp_14 : decode cX2_breakUp 14 = .ok (.invokespecial 82, 3) := by decide +kernel
theorem dX2_breakUp_17 : decode cX2_breakUp 17 = .ok (.athrow, 1) := by decide +kernel
theorem dX2_breakUp_18 : decode cX2_breakUp 18 = .ok (.aload_n 0, 1) := by decide +kernel
theorem dX2_breakUp_19 : decode cX2_breakUp 19 = .ok (.getfield 30, 3) := by decide +kernel
theorem dX2_breakUp_22 : decode cX2_breakUp 22 = .ok (.iload_n 1, 1) := by decide +kernel
theorem dX2_breakUp_23 : decode cX2_breakUp 23 = .ok (.aaload, 1) := by decide +kernel
theorem dX2_breakUp_24 : decode cX2_breakUp 24 = .ok (.astore_n 2, 1) := by decide +kernel
theorem dX2_breakUp_25 : decode cX2_breakUp 25 = .ok (.aload_n 2, 1) := by decide +kernel
theorem dX2_breakUp_26 : decode cX2_breakUp 26 = .ok (.getfield 127, 3) := by decide +kernel
theorem dX2_breakUp_29 : decode cX2_breakUp 29 = .ok (.ifCond .ne 13, 3) := by decide +kernel
theorem dX2_breakUp_32 : decode cX2_breakUp 32 = .ok (.new 69, 3) := by decide +kernel
theorem dX2_breakUp_35 : decode cX2_breakUp 35 = .ok (.dup, 1) := by decide +kernel
theorem dX2_breakUp_36 : decode cX2_breakUp 36 = .ok (.ldc 184, 2) := by decide +kernel
theorem dX2_breakUp_38 : decode cX2_breakUp 38 = .ok (.invokespecial 73, 3) := by decide +kernel
theorem dX2_breakUp_41 : decode cX2_breakUp 41 = .ok (.athrow, 1) := by decide +kernel
theorem dX2_breakUp_42 : decode cX2_breakUp 42 = .ok (.aload_n 2, 1) := by decide +kernel
theorem dX2_breakUp_43 : decode cX2_breakUp 43 = .ok (.invokevirtual 172, 3) := by decide +kernel
theorem dX2_breakUp_46 : decode cX2_breakUp 46 = .ok (.istore_n 3, 1) := by decide +kernel
theorem dX2_breakUp_47 : decode cX2_breakUp 47 = .ok (.aload_n 0, 1) := by decide +kernel
theorem dX2_breakUp_48 : decode cX2_breakUp 48 = .ok (.iload_n 1, 1) := by decide +kernel
theorem dX2_breakUp_49 : decode cX2_breakUp 49 = .ok (.invokevirtual 186, 3) := by decide +kernel
theorem dX2_breakUp_52 : decode cX2_breakUp 52 = .ok (.aload_n 2, 1) := by decide +kernel
theorem dX2_breakUp_53 : decode cX2_breakUp 53 = .ok (.invokevirtual 189, 3) := by decide +kernel
theorem dX2_breakUp_56 : decode cX2_breakUp 56 = .ok (.iload_n 3, 1) := by decide +kernel
theorem dX2_breakUp_57 : decode cX2_breakUp 57 = .ok (.ireturn, 1) := by decide +kernel
set_option maxRecDepth 20000 in
theorem ggX2_cask_X2_isCask : GoodIn wsX2_cask wsX2_isCask := goodIn_r _ [7, 8, 51, 52, 53, 54, 55, 56, 57, 58, 59, 60, 61, 62, 63, 64, 65, 66, 67] (by decide +kernel) (by decide +kernel)
set_option maxRecDepth 20000 in
theorem gX2_cask_X2_isCask : GoodIn wsX2_cask (wsV RX2 141 RX2 yX2_isCask wsX2_isCask) := goodIn_app (goodIn_of _ (by decide +kernel)) ggX2_cask_X2_isCask
set_option maxRecDepth 20000 in
theorem ggX2_cask_X2_tellOfCask : GoodIn wsX2_cask wsX2_tellOfCask := goodIn_r _ [12, 13, 14, 15, 16, 17, 18, 19, 20, 21, 22, 23, 24, 6, 25, 26, 27, 28, 29, 30, 31, 32, 33, 34, 35, 36, 37, 38, 39, 40, 41, 42, 43, 44, 45, 46, 47, 48, 49, 50, 51, 52, 53, 54, 55, 56, 57, 58, 59, 60, 61, 62, 63, 64, 65, 66, 67, 68, 69, 70, 71, 72, 73, 74, 75, 76, 77, 78] (by decide +kernel) (by decide +kernel)
set_option maxRecDepth 20000 in
theorem gX2_cask_X2_tellOfCask : GoodIn wsX2_cask (wsV RX2 194 RX2 yX2_tellOfCask wsX2_tellOfCask) := goodIn_app (goodIn_of _ (by decide +kernel)) ggX2_cask_X2_tellOfCask
theorem dX2_cask_0 : decode cX2_cask 0 = .ok (.aload_n 0, 1) := by decide +kernel
theorem dX2_cask_1 : decode cX2_cask 1 = .ok (.iload_n 1, 1) := by decide +kernel
theorem dX2_cask_2 : decode cX2_cask 2 = .ok (.invokevirtual 141, 3) := by decide +kernel
theorem dX2_cask_5 : decode cX2_cask 5 = .ok (.ifCond .ne 13, 3) := by decide +kernel
theorem dX2_cask_8 : decode cX2_cask 8 = .ok (.new 78, 3) := by decide +kernel
theorem dX2_cask_11 : decode cX2_cask 11 = .ok (.dup, 1) := by decide +kernel
theorem dX2_cask_12 : decode cX2_cask 12 = .ok (.ldc 144, 2) := by decide +kernel
theorem dX2_cask_14 : decode cX2_cask 14 = .ok (.invokespecial 82, 3) := by decide +kernel
theorem dX2_cask_17 : decode cX2_cask 17 = .ok (.athrow, 1) := by decide +kernel
theorem dX2_cask_18 : decode cX2_cask 18 = .ok (.iload_n 2, 1) := by decide +kernel
theorem dX2_cask_19 : decode cX2_cask 19 = .ok (.ifCond .lt 9, 3) := by decide +kernel
theorem dX2_cask_22 : decode cX2_cask 22 = .ok (.iload_n 2, 1) := by decide +kernel
theorem dX2_cask_23 : decode cX2_cask 23 = .ok (.bipush 16, 2) := by decide +kernel
theorem dX2_cask_25 : decode cX2_cask 25 = .ok (.if_icmp .lt 13, 3) := by decide +kernel
theorem dX2_cask_28 : decode cX2_cask 28 = .ok (.new 78, 3) := by decide +kernel
theorem dX2_cask_31 : decode cX2_cask 31 = .ok (.dup, 1) := by decide +kernel
theorem dX2_cask_32 : decode cX2_cask 32 = .ok (.ldc 192, 2) := by decide +kernel
theorem dX2_cask_34 : decode cX2_cask 34 = .ok (.invokespecial 82, 3) := by decide +kernel
theorem dX2_cask_37 : decode cX2_cask 37 = .ok (.athrow, 1) := by decide +kernel
theorem dX2_cask_38 : decode cX2_cask 38 = .ok (.aload_n 0, 1) := by decide +kernel
theorem dX2_cask_39 : decode cX2_cask 39 = .ok (.iload_n 1, 1) := by decide +kernel
theorem dX2_cask_40 : decode cX2_cask 40 = .ok (.iload_n 2, 1) := by decide +kernel
theorem dX2_cask_41 : decode cX2_cask 41 = .ok (.invokevirtual 194, 3) := by decide +kernel
theorem dX2_cask_44 : decode cX2_cask 44 = .ok (.ireturn, 1) := by decide +kernel
set_option maxRecDepth 20000 in
theorem ggX2_fill_X2_isCask : GoodIn wsX2_fill wsX2_isCask := goodIn_r _ [16, 17, 30, 31, 32, 33, 34, 35, 36, 37, 38, 39, 40, 41, 42, 43, 44, 45, 46] (by decide +kernel) (by decide +kernel)
set_option maxRecDepth 20000 in
theorem gX2_fill_X2_isCask : GoodIn wsX2_fill (wsV RX2 141 RX2 yX2_isCask wsX2_isCask) := goodIn_app (goodIn_of _ (by decide +kernel)) ggX2_fill_X2_isCask
set_option maxRecDepth 20000 in
theorem ggX2_fill_X1_held : GoodIn wsX2_fill wsX1_held := goodIn_r _ [22, 23, 47, 48, 49, 50, 51, 52, 53, 54, 55, 56, 57] (by decide +kernel) (by decide +kernel)
set_option maxRecDepth 20000 in
theorem gX2_fill_X1_held : GoodIn wsX2_fill (wsV RX2 172 RX1 yX1_held wsX1_held) := goodIn_app (goodIn_of _ (by decide +kernel)) ggX2_fill_X1_held
set_option maxRecDepth 20000 in
theorem ggX2_fill_X1_countFilling : GoodIn wsX2_fill wsX1_countFilling := goodIn_r _ [27, 28, 29, 19, 20, 21, 22, 23, 47, 48, 49, 50, 51, 52, 53, 54, 55, 56, 57] (by decide +kernel) (by decide +kernel)
set_option maxRecDepth 20000 in
theorem gX2_fill_X1_countFilling : GoodIn wsX2_fill (wsV RX2 203 RX1 yX1_countFilling wsX1_countFilling) := goodIn_app (goodIn_of _ (by decide +kernel)) ggX2_fill_X1_countFilling
theorem dX2_fill_0 : decode cX2_fill 0 = .ok (.aload_n 0, 1) := by decide +kernel
theorem dX2_fill_1 : decode cX2_fill 1 = .ok (.iload_n 1, 1) := by decide +kernel
theorem dX2_fill_2 : decode cX2_fill 2 = .ok (.invokevirtual 141, 3) := by decide +kernel
theorem dX2_fill_5 : decode cX2_fill 5 = .ok (.ifCond .ne 13, 3) := by decide +kernel
theorem dX2_fill_8 : decode cX2_fill 8 = .ok (.new 78, 3) := by decide +kernel
theorem dX2_fill_11 : decode cX2_fill 11 = .ok (.dup, 1) := by decide +kernel
theorem dX2_fill_12 : decode cX2_fill 12 = .ok (.ldc 144, 2) := by decide +kernel
theorem dX2_fill_14 : decode cX2_fill 14 = .ok (.invokespecial 82, 3) := by decide +kernel
theorem dX2_fill_17 : decode cX2_fill 17 = .ok (.athrow, 1) := by decide +kernel
theorem dX2_fill_18 : decode cX2_fill 18 = .ok (.iload_n 2, 1) := by decide +kernel
theorem dX2_fill_19 : decode cX2_fill 19 = .ok (.ifCond .lt 8, 3) := by decide +kernel
theorem dX2_fill_22 : decode cX2_fill 22 = .ok (.iload_n 2, 1) := by decide +kernel
theorem dX2_fill_23 : decode cX2_fill 23 = .ok (.iconst 4, 1) := by decide +kernel
theorem dX2_fill_24 : decode cX2_fill 24 = .ok (.if_icmp .lt 13, 3) := by decide +kernel
theorem dX2_fill_27 : decode cX2_fill 27 = .ok (.new 57, 3) := by decide +kernel
theorem dX2_fill_30 : decode cX2_fill 30 = .ok (.dup, 1) := by decide +kernel
theorem dX2_fill_31 : decode cX2_fill 31 = .ok (.ldc 197, 2) := by decide +kernel
theorem dX2_fill_33 : decode cX2_fill 33 = .ok (.invokespecial 61, 3) := by decide +kernel
theorem dX2_fill_36 : decode cX2_fill 36 = .ok (.athrow, 1) := by decide +kernel
theorem dX2_fill_37 : decode cX2_fill 37 = .ok (.iload_n 3, 1) := by decide +kernel
theorem dX2_fill_38 : decode cX2_fill 38 = .ok (.iconst 1, 1) := by decide +kernel
theorem dX2_fill_39 : decode cX2_fill 39 = .ok (.if_icmp .lt 9, 3) := by decide +kernel
theorem dX2_fill_42 : decode cX2_fill 42 = .ok (.iload_n 3, 1) := by decide +kernel
theorem dX2_fill_43 : decode cX2_fill 43 = .ok (.ldc 87, 2) := by decide +kernel
theorem dX2_fill_45 : decode cX2_fill 45 = .ok (.if_icmp .le 13, 3) := by decide +kernel
theorem dX2_fill_48 : decode cX2_fill 48 = .ok (.new 57, 3) := by decide +kernel
theorem dX2_fill_51 : decode cX2_fill 51 = .ok (.dup, 1) := by decide +kernel
theorem dX2_fill_52 : decode cX2_fill 52 = .ok (.ldc 199, 2) := by decide +kernel
theorem dX2_fill_54 : decode cX2_fill 54 = .ok (.invokespecial 61, 3) := by decide +kernel
theorem dX2_fill_57 : decode cX2_fill 57 = .ok (.athrow, 1) := by decide +kernel
theorem dX2_fill_58 : decode cX2_fill 58 = .ok (.aload_n 0, 1) := by decide +kernel
theorem dX2_fill_59 : decode cX2_fill 59 = .ok (.getfield 30, 3) := by decide +kernel
theorem dX2_fill_62 : decode cX2_fill 62 = .ok (.iload_n 1, 1) := by decide +kernel
theorem dX2_fill_63 : decode cX2_fill 63 = .ok (.aaload, 1) := by decide +kernel
theorem dX2_fill_64 : decode cX2_fill 64 = .ok (.astore 4, 2) := by decide +kernel
theorem dX2_fill_66 : decode cX2_fill 66 = .ok (.aload 4, 2) := by decide +kernel
theorem dX2_fill_68 : decode cX2_fill 68 = .ok (.getfield 127, 3) := by decide +kernel
theorem dX2_fill_71 : decode cX2_fill 71 = .ok (.ifCond .ne 13, 3) := by decide +kernel
theorem dX2_fill_74 : decode cX2_fill 74 = .ok (.new 69, 3) := by decide +kernel
theorem dX2_fill_77 : decode cX2_fill 77 = .ok (.dup, 1) := by decide +kernel
theorem dX2_fill_78 : decode cX2_fill 78 = .ok (.ldc 184, 2) := by decide +kernel
theorem dX2_fill_80 : decode cX2_fill 80 = .ok (.invokespecial 73, 3) := by decide +kernel
theorem dX2_fill_83 : decode cX2_fill 83 = .ok (.athrow, 1) := by decide +kernel
theorem dX2_fill_84 : decode cX2_fill 84 = .ok (.aload 4, 2) := by decide +kernel
theorem dX2_fill_86 : decode cX2_fill 86 = .ok (.invokevirtual 172, 3) := by decide +kernel
theorem dX2_fill_89 : decode cX2_fill 89 = .ok (.iload_n 3, 1) := by decide +kernel
theorem dX2_fill_90 : decode cX2_fill 90 = .ok (.iadd, 1) := by decide +kernel
theorem dX2_fill_91 : decode cX2_fill 91 = .ok (.aload 4, 2) := by decide +kernel
theorem dX2_fill_93 : decode cX2_fill 93 = .ok (.getfield 124, 3) := by decide +kernel
theorem dX2_fill_96 : decode cX2_fill 96 = .ok (.if_icmp .le 13, 3) := by decide +kernel
theorem dX2_fill_99 : decode cX2_fill 99 = .ok (.new 69, 3) := by decide +kernel
theorem dX2_fill_102 : decode cX2_fill 102 = .ok (.dup, 1) := by decide +kernel
theorem dX2_fill_103 : decode cX2_fill 103 = .ok (.ldc 201, 2) := by decide +kernel
theorem dX2_fill_105 : decode cX2_fill 105 = .ok (.invokespecial 73, 3) := by decide +kernel
theorem dX2_fill_108 : decode cX2_fill 108 = .ok (.athrow, 1) := by decide +kernel
theorem dX2_fill_109 : decode cX2_fill 109 = .ok (.aload 4, 2) := by decide +kernel
theorem dX2_fill_111 : decode cX2_fill 111 = .ok (.invokevirtual 203, 3) := by decide +kernel
theorem dX2_fill_114 : decode cX2_fill 114 = .ok (.aload 4, 2) := by decide +kernel
theorem dX2_fill_116 : decode cX2_fill 116 = .ok (.getfield 206, 3) := by decide +kernel
theorem dX2_fill_119 : decode cX2_fill 119 = .ok (.iload_n 2, 1) := by decide +kernel
theorem dX2_fill_120 : decode cX2_fill 120 = .ok (.dup2, 1) := by decide +kernel
theorem dX2_fill_121 : decode cX2_fill 121 = .ok (.iaload, 1) := by decide +kernel
theorem dX2_fill_122 : decode cX2_fill 122 = .ok (.iload_n 3, 1) := by decide +kernel
theorem dX2_fill_123 : decode cX2_fill 123 = .ok (.iadd, 1) := by decide +kernel
theorem dX2_fill_124 : decode cX2_fill 124 = .ok (.iastore, 1) := by decide +kernel
theorem dX2_fill_125 : decode cX2_fill 125 = .ok (.aload 4, 2) := by decide +kernel
theorem dX2_fill_127 : decode cX2_fill 127 = .ok (.invokevirtual 172, 3) := by decide +kernel
theorem dX2_fill_130 : decode cX2_fill 130 = .ok (.ireturn, 1) := by decide +kernel
set_option maxRecDepth 20000 in
theorem ggX2_rack_X2_isCask : GoodIn wsX2_rack wsX2_isCask := goodIn_r _ [16, 17, 53, 54, 55, 56, 57, 58, 59, 60, 61, 62, 63, 64, 65, 66, 67, 68, 69] (by decide +kernel) (by decide +kernel)
set_option maxRecDepth 20000 in
theorem gX2_rack_X2_isCask : GoodIn wsX2_rack (wsV RX2 141 RX2 yX2_isCask wsX2_isCask) := goodIn_app (goodIn_of _ (by decide +kernel)) ggX2_rack_X2_isCask
set_option maxRecDepth 20000 in
theorem ggX2_rack_X1_held : GoodIn wsX2_rack wsX1_held := goodIn_r _ [22, 23, 70, 71, 72, 73, 74, 75, 76, 77, 78, 79, 80] (by decide +kernel) (by decide +kernel)
set_option maxRecDepth 20000 in
theorem gX2_rack_X1_held : GoodIn wsX2_rack (wsV RX2 172 RX1 yX1_held wsX1_held) := goodIn_app (goodIn_of _ (by decide +kernel)) ggX2_rack_X1_held
set_option maxRecDepth 20000 in
theorem ggX2_rack_X1_clear : GoodIn wsX2_rack wsX1_clear := goodIn_r _ [27, 28, 29, 30, 31, 32, 33, 34, 35, 23, 36, 37, 38, 39, 70, 71, 72, 73, 74, 75, 76, 77, 78, 79, 80] (by decide +kernel) (by decide +kernel)
set_option maxRecDepth 20000 in
theorem gX2_rack_X1_clear : GoodIn wsX2_rack (wsV RX2 189 RX1 yX1_clear wsX1_clear) := goodIn_app (goodIn_of _ (by decide +kernel)) ggX2_rack_X1_clear
set_option maxRecDepth 20000 in
theorem ggX2_rack_X1_countFilling : GoodIn wsX2_rack wsX1_countFilling := goodIn_r _ [43, 32, 44, 19, 20, 21, 22, 23, 70, 71, 72, 73, 74, 75, 76, 77, 78, 79, 80] (by decide +kernel) (by decide +kernel)
set_option maxRecDepth 20000 in
theorem gX2_rack_X1_countFilling : GoodIn wsX2_rack (wsV RX2 203 RX1 yX1_countFilling wsX1_countFilling) := goodIn_app (goodIn_of _ (by decide +kernel)) ggX2_rack_X1_countFilling
set_option maxRecDepth 20000 in
theorem ggX2_rack_X1_moveTo : GoodIn wsX2_rack wsX1_moveTo := goodIn_r _ [48, 23, 34, 49, 50, 51, 21, 52, 70, 71, 72, 73, 74, 75, 76, 77, 78, 79, 80] (by decide +kernel) (by decide +kernel)
set_option maxRecDepth 20000 in
theorem gX2_rack_X1_moveTo : GoodIn wsX2_rack (wsV RX2 217 RX1 yX1_moveTo wsX1_moveTo) := goodIn_app (goodIn_of _ (by decide +kernel)) ggX2_rack_X1_moveTo
theorem dX2_rack_0 : decode cX2_rack 0 = .ok (.iload_n 2, 1) := by decide +kernel
theorem dX2_rack_1 : decode cX2_rack 1 = .ok (.iconst (-1), 1) := by decide +kernel
theorem dX2_rack_2 : decode cX2_rack 2 = .ok (.if_icmp .ne 7, 3) := by decide +kernel
theorem dX2_rack_5 : decode cX2_rack 5 = .ok (.iconst 1, 1) := by decide +kernel
theorem dX2_rack_6 : decode cX2_rack 6 = .ok (.goto 4, 3) := by decide +kernel
theorem dX2_rack_9 : decode cX2_rack 9 = .ok (.iconst 0, 1) := by decide +kernel
theorem dX2_rack_10 : decode cX2_rack 10 = .ok (.istore 4, 2) := by decide +kernel
theorem dX2_rack_12 : decode cX2_rack 12 = .ok (.aload_n 0, 1) := by decide +kernel
theorem dX2_rack_13 : decode cX2_rack 13 = .ok (.iload_n 1, 1) := by decide +kernel
theorem dX2_rack_14 : decode cX2_rack 14 = .ok (.invokevirtual 141, 3) := by decide +kernel
theorem dX2_rack_17 : decode cX2_rack 17 = .ok (.ifCond .eq 16, 3) := by decide +kernel
theorem dX2_rack_20 : decode cX2_rack 20 = .ok (.iload 4, 2) := by decide +kernel
theorem dX2_rack_22 : decode cX2_rack 22 = .ok (.ifCond .ne 21, 3) := by decide +kernel
theorem dX2_rack_25 : decode cX2_rack 25 = .ok (.aload_n 0, 1) := by decide +kernel
theorem dX2_rack_26 : decode cX2_rack 26 = .ok (.iload_n 2, 1) := by decide +kernel
theorem dX2_rack_27 : decode cX2_rack 27 = .ok (.invokevirtual 141, 3) := by decide +kernel
theorem dX2_rack_30 : decode cX2_rack 30 = .ok (.ifCond .ne 13, 3) := by decide +kernel
theorem dX2_rack_33 : decode cX2_rack 33 = .ok (.new 78, 3) := by decide +kernel
theorem dX2_rack_36 : decode cX2_rack 36 = .ok (.dup, 1) := by decide +kernel
theorem dX2_rack_37 : decode cX2_rack 37 = .ok (.ldc 144, 2) := by decide +kernel
theorem dX2_rack_39 : decode cX2_rack 39 = .ok (.invokespecial 82, 3) := by decide +kernel
theorem dX2_rack_42 : decode cX2_rack 42 = .ok (.athrow, 1) := by decide +kernel
theorem dX2_rack_43 : decode cX2_rack 43 = .ok (.iload_n 1, 1) := by decide +kernel
theorem dX2_rack_44 : decode cX2_rack 44 = .ok (.iload_n 2, 1) := by decide +kernel
theorem dX2_rack_45 : decode cX2_rack 45 = .ok (.if_icmp .ne 13, 3) := by decide +kernel
theorem dX2_rack_48 : decode cX2_rack 48 = .ok (.new 57, 3) := by decide +kernel
theorem dX2_rack_51 : decode cX2_rack 51 = .ok (.dup, 1) := by decide +kernel
theorem dX2_rack_52 : decode cX2_rack 52 = .ok (.ldc 209, 2) := by decide +kernel
theorem dX2_rack_54 : decode cX2_rack 54 = .ok (.invokespecial 61, 3) := by decide +kernel
theorem dX2_rack_57 : decode cX2_rack 57 = .ok (.athrow, 1) := by decide +kernel
theorem dX2_rack_58 : decode cX2_rack 58 = .ok (.iload_n 3, 1) := by decide +kernel
theorem dX2_rack_59 : decode cX2_rack 59 = .ok (.iconst 1, 1) := by decide +kernel
theorem dX2_rack_60 : decode cX2_rack 60 = .ok (.if_icmp .lt 9, 3) := by decide +kernel
theorem dX2_rack_63 : decode cX2_rack 63 = .ok (.iload_n 3, 1) := by decide +kernel
theorem dX2_rack_64 : decode cX2_rack 64 = .ok (.ldc 87, 2) := by decide +kernel
theorem dX2_rack_66 : decode cX2_rack 66 = .ok (.if_icmp .le 13, 3) := by decide +kernel
theorem dX2_rack_69 : decode cX2_rack 69 = .ok (.new 57, 3) := by decide +kernel
theorem dX2_rack_72 : decode cX2_rack 72 = .ok (.dup, 1) := by decide +kernel
theorem dX2_rack_73 : decode cX2_rack 73 = .ok (.ldc 199, 2) := by decide +kernel
theorem dX2_rack_75 : decode cX2_rack 75 = .ok (.invokespecial 61, 3) := by decide +kernel
theorem dX2_rack_78 : decode cX2_rack 78 = .ok (.athrow, 1) := by decide +kernel
theorem dX2_rack_79 : decode cX2_rack 79 = .ok (.aload_n 0, 1) := by decide +kernel
theorem dX2_rack_80 : decode cX2_rack 80 = .ok (.getfield 30, 3) := by decide +kernel
theorem dX2_rack_83 : decode cX2_rack 83 = .ok (.iload_n 1, 1) := by decide +kernel
theorem dX2_rack_84 : decode cX2_rack 84 = .ok (.aaload, 1) := by decide +kernel
theorem dX2_rack_85 : decode cX2_rack 85 = .ok (.astore 5, 2) := by decide +kernel
theorem dX2_rack_87 : decode cX2_rack 87 = .ok (.iload 4, 2) := by decide +kernel
theorem dX2_rack_89 : decode cX2_rack 89 = .ok (.ifCond .eq 10, 3) := by decide +kernel
theorem dX2_rack_92 : decode cX2_rack 92 = .ok (.aload_n 0, 1) := by decide +kernel
theorem dX2_rack_93 : decode cX2_rack 93 = .ok (.getfield 35, 3) := by decide +kernel
theorem dX2_rack_96 : decode cX2_rack 96 = .ok (.goto 9, 3) := by decide +kernel
theorem dX2_rack_99 : decode cX2_rack 99 = .ok (.aload_n 0, 1) := by decide +kernel
theorem dX2_rack_100 : decode cX2_rack 100 = .ok (.getfield 30, 3) := by decide +kernel
theorem dX2_rack_103 : decode cX2_rack 103 = .ok (.iload_n 2, 1) := by decide +kernel
theorem dX2_rack_104 : decode cX2_rack 104 = .ok (.aaload, 1) := by decide +kernel
theorem dX2_rack_105 : decode cX2_rack 105 = .ok (.astore 6, 2) := by decide +kernel
theorem dX2_rack_107 : decode cX2_rack 107 = .ok (.aload 5, 2) := by decide +kernel
theorem dX2_rack_109 : decode cX2_rack 109 = .ok (.getfield 127, 3) := by decide +kernel
theorem dX2_rack_112 : decode cX2_rack 112 = .ok (.ifCond .eq 16, 3) := by decide +kernel
theorem dX2_rack_115 : decode cX2_rack 115 = .ok (.iload 4, 2) := by decide +kernel
theorem dX2_rack_117 : decode cX2_rack 117 = .ok (.ifCond .ne 21, 3) := by decide +kernel
theorem dX2_rack_120 : decode cX2_rack 120 = .ok (.aload 6, 2) := by decide +kernel
theorem dX2_rack_122 : decode cX2_rack 122 = .ok (.getfield 127, 3) := by decide +kernel
theorem dX2_rack_125 : decode cX2_rack 125 = .ok (.ifCond .ne 13, 3) := by decide +kernel
theorem dX2_rack_128 : decode cX2_rack 128 = .ok (.new 69, 3) := by decide +kernel
theorem dX2_rack_131 : decode cX2_rack 131 = .ok (.dup, 1) := by decide +kernel
theorem dX2_rack_132 : decode cX2_rack 132 = .ok (.ldc 211, 2) := by decide +kernel
theorem dX2_rack_134 : decode cX2_rack 134 = .ok (.invokespecial 73, 3) := by decide +kernel
theorem dX2_rack_137 : decode cX2_rack 137 = .ok (.athrow, 1) := by decide +kernel
theorem dX2_rack_138 : decode cX2_rack 138 = .ok (.aload 5, 2) := by decide +kernel
theorem dX2_rack_140 : decode cX2_rack 140 = .ok (.invokevirtual 172, 3) := by decide +kernel
theorem dX2_rack_143 : decode cX2_rack 143 = .ok (.istore 7, 2) := by decide +kernel
theorem dX2_rack_145 : decode cX2_rack 145 = .ok (.iload 7, 2) := by decide +kernel
theorem dX2_rack_147 : decode cX2_rack 147 = .ok (.iload_n 3, 1) := by decide +kernel
theorem dX2_rack_148 : decode cX2_rack 148 = .ok (.if_icmp .ge 13, 3) := by decide +kernel
theorem dX2_rack_151 : decode cX2_rack 151 = .ok (.new 69, 3) := by decide +kernel
theorem dX2_rack_154 : decode cX2_rack 154 = .ok (.dup, 1) := by decide +kernel
theorem dX2_rack_155 : decode cX2_rack 155 = .ok (.ldc 213, 2) := by decide +kernel
theorem dX2_rack_157 : decode cX2_rack 157 = .ok (.invokespecial 73, 3) := by decide +kernel
theorem dX2_rack_160 : decode cX2_rack 160 = .ok (.athrow, 1) := by decide +kernel
theorem dX2_rack_161 : decode cX2_rack 161 = .ok (.iload 4, 2) := by decide +kernel
theorem dX2_rack_163 : decode cX2_rack 163 = .ok (.ifCond .ne 28, 3) := by decide +kernel
theorem dX2_rack_166 : decode cX2_rack 166 = .ok (.aload 6, 2) := by decide +kernel
theorem dX2_rack_168 : decode cX2_rack 168 = .ok (.invokevirtual 172, 3) := by decide +kernel
theorem dX2_rack_171 : decode cX2_rack 171 = .ok (.iload_n 3, 1) := by decide +kernel
theorem dX2_rack_172 : decode cX2_rack 172 = .ok (.iadd, 1) := by decide +kernel
theorem dX2_rack_173 : decode cX2_rack 173 = .ok (.aload 6, 2) := by decide +kernel
theorem dX2_rack_175 : decode cX2_rack 175 = .ok (.getfield 124, 3) := by decide +kernel
theorem dX2_rack_178 : decode cX2_rack 178 = .ok (.if_icmp .le 13, 3) := by decide +kernel
theorem dX2_rack_181 : decode cX2_rack 181 = .ok (.new 69, 3) := by decide +kernel
theorem dX2_rack_184 : decode cX2_rack 184 = .ok (.dup, 1) := by decide +kernel
theorem dX2_rack_185 : decode cX2_rack 185 = .ok (.ldc 215, 2) := by decide +kernel
theorem dX2_rack_187 : decode cX2_rack 187 = .ok (.invokespecial 73, 3) := by decide +kernel
theorem dX2_rack_190 : decode cX2_rack 190 = .ok (.athrow, 1) := by decide +kernel
theorem dX2_rack_191 : decode cX2_rack 191 = .ok (.iload 4, 2) := by decide +kernel
theorem dX2_rack_193 : decode cX2_rack 193 = .ok (.ifCond .eq 10, 3) := by decide +kernel
theorem dX2_rack_196 : decode cX2_rack 196 = .ok (.aload_n 0, 1) := by decide +kernel
theorem dX2_rack_197 : decode cX2_rack 197 = .ok (.getfield 35, 3) := by decide +kernel
theorem dX2_rack_200 : decode cX2_rack 200 = .ok (.invokevirtual 189, 3) := by decide +kernel
theorem dX2_rack_203 : decode cX2_rack 203 = .ok (.aload 6, 2) := by decide +kernel
theorem dX2_rack_205 : decode cX2_rack 205 = .ok (.invokevirtual 203, 3) := by decide +kernel
theorem dX2_rack_208 : decode cX2_rack 208 = .ok (.aload 5, 2) := by decide +kernel
theorem dX2_rack_210 : decode cX2_rack 210 = .ok (.aload 6, 2) := by decide +kernel
theorem dX2_rack_212 : decode cX2_rack 212 = .ok (.iload_n 3, 1) := by decide +kernel
theorem dX2_rack_213 : decode cX2_rack 213 = .ok (.iload 7, 2) := by decide +kernel
theorem dX2_rack_215 : decode cX2_rack 215 = .ok (.invokevirtual 217, 3) := by decide +kernel
theorem dX2_rack_218 : decode cX2_rack 218 = .ok (.aload 5, 2) := by decide +kernel
theorem dX2_rack_220 : decode cX2_rack 220 = .ok (.invokevirtual 172, 3) := by decide +kernel
theorem dX2_rack_223 : decode cX2_rack 223 = .ok (.ireturn, 1) := by decide +kernel
theorem dX2_setWarmth_0 : decode cX2_setWarmth 0 = .ok (.iload_n 1, 1) := by decide +kernel
theorem dX2_setWarmth_1 : decode cX2_setWarmth 1 = .ok (.ifCond .lt 9, 3) := by decide +kernel
theorem dX2_setWarmth_4 : decode cX2_setWarmth 4 = .ok (.iload_n 1, 1) := by decide +kernel
theorem dX2_setWarmth_5 : decode cX2_setWarmth 5 = .ok (.bipush 9, 2) := by decide +kernel
theorem dX2_setWarmth_7 : decode cX2_setWarmth 7 = .ok (.if_icmp .le 13, 3) := by decide +kernel
theorem dX2_setWarmth_10 : decode cX2_setWarmth 10 = .ok (.new 57, 3) := by decide +kernel
theorem dX2_setWarmth_13 : decode cX2_setWarmth 13 = .ok (.dup, 1) := by decide +kernel
theorem dX2_setWarmth_14 : decode cX2_setWarmth 14 = .ok (.ldc 221, 2) := by decide +kernel
theorem dX2_setWarmth_16 : decode cX2_setWarmth 16 = .ok (.invokespecial 61, 3) := by decide +kernel
theorem dX2_setWarmth_19 : decode cX2_setWarmth 19 = .ok (.athrow, 1) := by decide +kernel
theorem dX2_setWarmth_20 : decode cX2_setWarmth 20 = .ok (.aload_n 0, 1) := by decide +kernel
theorem dX2_setWarmth_21 : decode cX2_setWarmth 21 = .ok (.getfield 53, 3) := by decide +kernel
theorem dX2_setWarmth_24 : decode cX2_setWarmth 24 = .ok (.istore_n 2, 1) := by decide +kernel
theorem dX2_setWarmth_25 : decode cX2_setWarmth 25 = .ok (.aload_n 0, 1) := by decide +kernel
theorem dX2_setWarmth_26 : decode cX2_setWarmth 26 = .ok (.iload_n 1, 1) := by decide +kernel
theorem dX2_setWarmth_27 : decode cX2_setWarmth 27 = .ok (.putfield 53, 3) := by decide +kernel
theorem dX2_setWarmth_30 : decode cX2_setWarmth 30 = .ok (.iload_n 2, 1) := by decide +kernel
theorem dX2_setWarmth_31 : decode cX2_setWarmth 31 = .ok (.ireturn, 1) := by decide +kernel
set_option maxRecDepth 20000 in
theorem ggX2_pass_X2_liveMonth : GoodIn wsX2_pass wsX2_liveMonth := goodIn_r _ [11, 12, 13, 14, 15, 16, 17, 18, 19, 20, 21, 5, 22, 23, 10, 24, 25, 26, 27, 28, 29, 30, 31, 32, 33, 34, 35, 36, 37, 38, 39, 40, 41, 42, 43, 44, 45, 46, 47, 48, 49, 50, 51, 52, 53, 54, 55, 56, 57, 58, 59, 60, 61, 62, 63, 64, 65, 66, 67, 68, 69, 70, 71, 72, 73, 74, 75, 76, 77, 78, 79, 80, 81, 82, 83, 84, 85, 86, 87, 88, 89, 90, 91, 92, 93, 94, 95, 96, 97, 98, 99, 100, 101, 102, 103, 104, 105, 106, 107, 108, 109, 110, 111, 112, 113] (by decide +kernel) (by decide +kernel)
set_option maxRecDepth 20000 in
theorem gX2_pass_X2_liveMonth : GoodIn wsX2_pass (wsV RX2 230 RX2 yX2_liveMonth wsX2_liveMonth) := goodIn_app (goodIn_of _ (by decide +kernel)) ggX2_pass_X2_liveMonth
theorem dX2_pass_0 : decode cX2_pass 0 = .ok (.iload_n 1, 1) := by decide +kernel
theorem dX2_pass_1 : decode cX2_pass 1 = .ok (.iconst 1, 1) := by decide +kernel
theorem dX2_pass_2 : decode cX2_pass 2 = .ok (.if_icmp .lt 9, 3) := by decide +kernel
theorem dX2_pass_5 : decode cX2_pass 5 = .ok (.iload_n 1, 1) := by decide +kernel
theorem dX2_pass_6 : decode cX2_pass 6 = .ok (.bipush 60, 2) := by decide +kernel
theorem dX2_pass_8 : decode cX2_pass 8 = .ok (.if_icmp .le 13, 3) := by decide +kernel
theorem dX2_pass_11 : decode cX2_pass 11 = .ok (.new 57, 3) := by decide +kernel
theorem dX2_pass_14 : decode cX2_pass 14 = .ok (.dup, 1) := by decide +kernel
theorem dX2_pass_15 : decode cX2_pass 15 = .ok (.ldc 223, 2) := by decide +kernel
theorem dX2_pass_17 : decode cX2_pass 17 = .ok (.invokespecial 61, 3) := by decide +kernel
theorem dX2_pass_20 : decode cX2_pass 20 = .ok (.athrow, 1) := by decide +kernel
theorem dX2_pass_21 : decode cX2_pass 21 = .ok (.aload_n 0, 1) := by decide +kernel
theorem dX2_pass_22 : decode cX2_pass 22 = .ok (.getfield 225, 3) := by decide +kernel
theorem dX2_pass_25 : decode cX2_pass 25 = .ok (.iload_n 1, 1) := by decide +kernel
theorem dX2_pass_26 : decode cX2_pass 26 = .ok (.iadd, 1) := by decide +kernel
theorem dX2_pass_27 : decode cX2_pass 27 = .ok (.sipush 1200, 3) := by decide +kernel
theorem dX2_pass_30 : decode cX2_pass 30 = .ok (.if_icmp .le 13, 3) := by decide +kernel
theorem dX2_pass_33 : decode cX2_pass 33 = .ok (.new 69, 3) := by decide +kernel
theorem dX2_pass_36 : decode cX2_pass 36 = .ok (.dup, 1) := by decide +kernel
theorem dX2_pass_37 : decode cX2_pass 37 = .ok (.ldc 228, 2) := by decide +kernel
theorem dX2_pass_39 : decode cX2_pass 39 = .ok (.invokespecial 73, 3) := by decide +kernel
theorem dX2_pass_42 : decode cX2_pass 42 = .ok (.athrow, 1) := by decide +kernel
theorem dX2_pass_43 : decode cX2_pass 43 = .ok (.iconst 0, 1) := by decide +kernel
theorem dX2_pass_44 : decode cX2_pass 44 = .ok (.istore_n 2, 1) := by decide +kernel
theorem dX2_pass_45 : decode cX2_pass 45 = .ok (.iconst 0, 1) := by decide +kernel
theorem dX2_pass_46 : decode cX2_pass 46 = .ok (.istore_n 3, 1) := by decide +kernel
theorem dX2_pass_47 : decode cX2_pass 47 = .ok (.iload_n 3, 1) := by decide +kernel
theorem dX2_pass_48 : decode cX2_pass 48 = .ok (.iload_n 1, 1) := by decide +kernel
theorem dX2_pass_49 : decode cX2_pass 49 = .ok (.if_icmp .ge 16, 3) := by decide +kernel
theorem dX2_pass_52 : decode cX2_pass 52 = .ok (.iload_n 2, 1) := by decide +kernel
theorem dX2_pass_53 : decode cX2_pass 53 = .ok (.aload_n 0, 1) := by decide +kernel
theorem dX2_pass_54 : decode cX2_pass 54 = .ok (.invokevirtual 230, 3) := by decide +kernel
theorem dX2_pass_57 : decode cX2_pass 57 = .ok (.iadd, 1) := by decide +kernel
theorem dX2_pass_58 : decode cX2_pass 58 = .ok (.istore_n 2, 1) := by decide +kernel
theorem dX2_pass_59 : decode cX2_pass 59 = .ok (.iinc 3 1, 3) := by decide +kernel
theorem dX2_pass_62 : decode cX2_pass 62 = .ok (.goto (-15), 3) := by decide +kernel
theorem dX2_pass_65 : decode cX2_pass 65 = .ok (.aload_n 0, 1) := by decide +kernel
theorem dX2_pass_66 : decode cX2_pass 66 = .ok (.dup, 1) := by decide +kernel
theorem dX2_pass_67 : decode cX2_pass 67 = .ok (.getfield 233, 3) := by decide +kernel
theorem dX2_pass_70 : decode cX2_pass 70 = .ok (.iload_n 2, 1) := by decide +kernel
theorem dX2_pass_71 : decode cX2_pass 71 = .ok (.iadd, 1) := by decide +kernel
theorem dX2_pass_72 : decode cX2_pass 72 = .ok (.putfield 233, 3) := by decide +kernel
theorem dX2_pass_75 : decode cX2_pass 75 = .ok (.iload_n 2, 1) := by decide +kernel
theorem dX2_pass_76 : decode cX2_pass 76 = .ok (.ireturn, 1) := by decide +kernel
set_option maxRecDepth 20000 in
theorem ggX2_count_X2_stavesAt : GoodIn wsX2_count wsX2_stavesAt := goodIn_r _ [13, 4, 14, 36, 37, 38, 39, 40, 41, 42, 43, 44, 45, 46, 47, 48, 49, 50, 51, 52] (by decide +kernel) (by decide +kernel)
set_option maxRecDepth 20000 in
theorem gX2_count_X2_stavesAt : GoodIn wsX2_count (wsV RX2 238 RX2 yX2_stavesAt wsX2_stavesAt) := goodIn_app (goodIn_of _ (by decide +kernel)) ggX2_count_X2_stavesAt
set_option maxRecDepth 20000 in
theorem ggX2_count_X2_soundCasks : GoodIn wsX2_count wsX2_soundCasks := goodIn_r _ [18, 6, 19, 20, 36, 37, 38, 39, 40, 41, 42, 43, 44, 45, 46, 47, 48, 49, 50, 51, 52, 53, 54, 55, 56, 57, 58, 59, 60, 61, 62, 63] (by decide +kernel) (by decide +kernel)
set_option maxRecDepth 20000 in
theorem gX2_count_X2_soundCasks : GoodIn wsX2_count (wsV RX2 241 RX2 yX2_soundCasks wsX2_soundCasks) := goodIn_app (goodIn_of _ (by decide +kernel)) ggX2_count_X2_soundCasks
set_option maxRecDepth 20000 in
theorem ggX2_count_X2_heldByAll : GoodIn wsX2_count wsX2_heldByAll := goodIn_r _ [24, 6, 19, 25, 26, 27, 28, 29, 30, 36, 37, 38, 39, 40, 41, 42, 43, 44, 45, 46, 47, 48, 49, 50, 51, 52, 53, 54, 55, 56, 57, 58, 59, 60, 61, 62, 63] (by decide +kernel) (by decide +kernel)
set_option maxRecDepth 20000 in
theorem gX2_count_X2_heldByAll : GoodIn wsX2_count (wsV RX2 244 RX2 yX2_heldByAll wsX2_heldByAll) := goodIn_app (goodIn_of _ (by decide +kernel)) ggX2_count_X2_heldByAll
set_option maxRecDepth 20000 in
theorem ggX2_count_X2_vinegarOfAll : GoodIn wsX2_count wsX2_vinegarOfAll := goodIn_r _ [34, 6, 19, 35, 36, 37, 38, 39, 40, 41, 42, 43, 44, 45, 46, 47, 48, 49, 50, 51, 52, 53, 54, 55, 56, 57, 58, 59, 60, 61, 62, 63] (by decide +kernel) (by decide +kernel)
set_option maxRecDepth 20000 in
theorem gX2_count_X2_vinegarOfAll : GoodIn wsX2_count (wsV RX2 247 RX2 yX2_vinegarOfAll wsX2_vinegarOfAll) := goodIn_app (goodIn_of _ (by decide +kernel)) ggX2_count_X2_vinegarOfAll
theorem dX2_count_0 : decode cX2_count 0 = .ok (.iload_n 1, 1) := by decide +kernel
theorem dX2_count_1 : decode cX2_count 1 = .ok (.ifCond .lt 9, 3) := by decide +kernel
theorem dX2_count_4 : decode cX2_count 4 = .ok (.iload_n 1, 1) := by decide +kernel
theorem dX2_count_5 : decode cX2_count 5 = .ok (.bipush 10, 2) := by decide +kernel
theorem dX2_count_7 : decode cX2_count 7 = .ok (.if_icmp .lt 13, 3) := by decide +kernel
theorem dX2_count_10 : decode cX2_count 10 = .ok (.new 78, 3) := by decide +kernel
theorem dX2_count_13 : decode cX2_count 13 = .ok (.dup, 1) := by decide +kernel
theorem dX2_count_14 : decode cX2_count 14 = .ok (.ldc 236, 2) := by decide +kernel
theorem dX2_count_16 : decode cX2_count 16 = .ok (.invokespecial 82, 3) := by decide +kernel
theorem dX2_count_19 : decode cX2_count 19 = .ok (.athrow, 1) := by decide +kernel
theorem dX2_count_20 : decode cX2_count 20 = .ok (.iload_n 1, 1) := by decide +kernel
theorem dX2_count_21 : decode cX2_count 21 = .ok (.tableswitch 97 0 8 #[51, 56, 61, 67, 72, 77, 82, 87, 92], 51) := by decide +kernel
theorem dX2_count_72 : decode cX2_count 72 = .ok (.aload_n 0, 1) := by decide +kernel
theorem dX2_count_73 : decode cX2_count 73 = .ok (.getfield 225, 3) := by decide +kernel
theorem dX2_count_76 : decode cX2_count 76 = .ok (.ireturn, 1) := by decide +kernel
theorem dX2_count_77 : decode cX2_count 77 = .ok (.aload_n 0, 1) := by decide +kernel
theorem dX2_count_78 : decode cX2_count 78 = .ok (.getfield 66, 3) := by decide +kernel
theorem dX2_count_81 : decode cX2_count 81 = .ok (.ireturn, 1) := by decide +kernel
theorem dX2_count_82 : decode cX2_count 82 = .ok (.aload_n 0, 1) := by decide +kernel
theorem dX2_count_83 : decode cX2_count 83 = .ok (.iconst (-1), 1) := by decide +kernel
theorem dX2_count_84 : decode cX2_count 84 = .ok (.invokevirtual 238, 3) := by decide +kernel
theorem dX2_count_87 : decode cX2_count 87 = .ok (.ireturn, 1) := by decide +kernel
theorem dX2_count_88 : decode cX2_count 88 = .ok (.aload_n 0, 1) := by decide +kernel
theorem dX2_count_89 : decode cX2_count 89 = .ok (.getfield 92, 3) := by decide +kernel
theorem dX2_count_92 : decode cX2_count 92 = .ok (.ireturn, 1) := by decide +kernel
theorem dX2_count_93 : decode cX2_count 93 = .ok (.aload_n 0, 1) := by decide +kernel
theorem dX2_count_94 : decode cX2_count 94 = .ok (.getfield 114, 3) := by decide +kernel
theorem dX2_count_97 : decode cX2_count 97 = .ok (.ireturn, 1) := by decide +kernel
theorem dX2_count_98 : decode cX2_count 98 = .ok (.aload_n 0, 1) := by decide +kernel
theorem dX2_count_99 : decode cX2_count 99 = .ok (.invokevirtual 241, 3) := by decide +kernel
theorem dX2_count_102 : decode cX2_count 102 = .ok (.ireturn, 1) := by decide +kernel
theorem dX2_count_103 : decode cX2_count 103 = .ok (.aload_n 0, 1) := by decide +kernel
theorem dX2_count_104 : decode cX2_count 104 = .ok (.invokevirtual 244, 3) := by decide +kernel
theorem dX2_count_107 : decode cX2_count 107 = .ok (.ireturn, 1) := by decide +kernel
theorem dX2_count_108 : decode cX2_count 108 = .ok (.aload_n 0, 1) := by decide +kernel
theorem dX2_count_109 : decode cX2_count 109 = .ok (.invokevirtual 247, 3) := by decide +kernel
theorem dX2_count_112 : decode cX2_count 112 = .ok (.ireturn, 1) := by decide +kernel
theorem dX2_count_113 : decode cX2_count 113 = .ok (.aload_n 0, 1) := by decide +kernel
theorem dX2_count_114 : decode cX2_count 114 = .ok (.getfield 233, 3) := by decide +kernel
theorem dX2_count_117 : decode cX2_count 117 = .ok (.ireturn, 1) := by decide +kernel
theorem dX2_count_118 : decode cX2_count 118 = .ok (.aload_n 0, 1) := by decide +kernel
theorem dX2_count_119 : decode cX2_count 119 = .ok (.getfield 53, 3) := by decide +kernel
theorem dX2_count_122 : decode cX2_count 122 = .ok (.ireturn, 1) := by decide +kernel
set_option maxRecDepth 20000 in
theorem ggX2_foresee_X2_isCask : GoodIn wsX2_foresee wsX2_isCask := goodIn_r _ [17, 18, 98, 99, 100, 101, 102, 103, 104, 105, 106, 107, 108, 109, 110, 111, 112, 113, 114] (by decide +kernel) (by decide +kernel)
set_option maxRecDepth 20000 in
theorem gX2_foresee_X2_isCask : GoodIn wsX2_foresee (wsV RX2 141 RX2 yX2_isCask wsX2_isCask) := goodIn_app (goodIn_of _ (by decide +kernel)) ggX2_foresee_X2_isCask
set_option maxRecDepth 20000 in
theorem ggX2_foresee_X1_copyFrom : GoodIn wsX2_foresee wsX1_copyFrom := goodIn_r _ [23, 24, 25, 26, 27, 28, 29, 30, 31, 32, 33, 34, 35, 36, 37, 38, 115, 116, 117, 118, 119, 120, 121, 122, 123, 124, 125] (by decide +kernel) (by decide +kernel)
set_option maxRecDepth 20000 in
theorem gX2_foresee_X1_copyFrom : GoodIn wsX2_foresee (wsV RX2 252 RX1 yX1_copyFrom wsX1_copyFrom) := goodIn_app (goodIn_of _ (by decide +kernel)) ggX2_foresee_X1_copyFrom
set_option maxRecDepth 20000 in
theorem ggX2_foresee_X2_hoopsLoosenIn : GoodIn wsX2_foresee wsX2_hoopsLoosenIn := goodIn_r _ [41] (by decide +kernel) (by decide +kernel)
set_option maxRecDepth 20000 in
theorem gX2_foresee_X2_hoopsLoosenIn : GoodIn wsX2_foresee (va_wsS RX2 256 yX2_hoopsLoosenIn wsX2_hoopsLoosenIn) := goodIn_app (goodIn_of _ (by decide +kernel)) ggX2_foresee_X2_hoopsLoosenIn
set_option maxRecDepth 20000 in
theorem ggX2_foresee_X1_live : GoodIn wsX2_foresee wsX1_live := goodIn_r _ [45, 26, 46, 47, 48, 22, 49, 30, 32, 50, 51, 52, 53, 38, 54, 55, 56, 57, 25, 29, 58, 59, 60, 61, 62, 63, 64, 65, 66, 67, 68, 27, 69, 70, 71, 72, 33, 73, 74, 75, 76, 77, 78, 79, 80, 81, 82, 83, 84, 85, 86, 87, 31, 88, 89, 90, 91, 92, 93, 94, 95, 115, 116, 117, 118, 119, 120, 121, 122, 123, 124, 125] (by decide +kernel) (by decide +kernel)
set_option maxRecDepth 20000 in
theorem gX2_foresee_X1_live : GoodIn wsX2_foresee (wsV RX2 259 RX1 yX1_live wsX1_live) := goodIn_app (goodIn_of _ (by decide +kernel)) ggX2_foresee_X1_live
set_option maxRecDepth 20000 in
theorem ggX2_foresee_X1_held : GoodIn wsX2_foresee wsX1_held := goodIn_r _ [53, 38, 115, 116, 117, 118, 119, 120, 121, 122, 123, 124, 125] (by decide +kernel) (by decide +kernel)
set_option maxRecDepth 20000 in
theorem gX2_foresee_X1_held : GoodIn wsX2_foresee (wsV RX2 172 RX1 yX1_held wsX1_held) := goodIn_app (goodIn_of _ (by decide +kernel)) ggX2_foresee_X1_held
set_option maxRecDepth 20000 in
theorem ggX2_foresee_X1_leak : GoodIn wsX2_foresee wsX1_leak := goodIn_r _ [68, 26, 27, 29, 62, 63, 60, 64, 69, 70, 71, 22, 72, 33, 115, 116, 117, 118, 119, 120, 121, 122, 123, 124, 125] (by decide +kernel) (by decide +kernel)
set_option maxRecDepth 20000 in
theorem gX2_foresee_X1_leak : GoodIn wsX2_foresee (wsV RX2 266 RX1 yX1_leak wsX1_leak) := goodIn_app (goodIn_of _ (by decide +kernel)) ggX2_foresee_X1_leak
theorem dX2_foresee_0 : decode cX2_foresee 0 = .ok (.aload_n 0, 1) := by decide +kernel
theorem dX2_foresee_1 : decode cX2_foresee 1 = .ok (.iload_n 1, 1) := by decide +kernel
theorem dX2_foresee_2 : decode cX2_foresee 2 = .ok (.invokevirtual 141, 3) := by decide +kernel
theorem dX2_foresee_5 : decode cX2_foresee 5 = .ok (.ifCond .ne 13, 3) := by decide +kernel
theorem dX2_foresee_8 : decode cX2_foresee 8 = .ok (.new 78, 3) := by decide +kernel
theorem dX2_foresee_11 : decode cX2_foresee 11 = .ok (.dup, 1) := by decide +kernel
theorem dX2_foresee_12 : decode cX2_foresee 12 = .ok (.ldc 144, 2) := by decide +kernel
theorem dX2_foresee_14 : decode cX2_foresee 14 = .ok (.invokespecial 82, 3) := by decide +kernel
theorem dX2_foresee_17 : decode cX2_foresee 17 = .ok (.athrow, 1) := by decide +kernel
theorem dX2_foresee_18 : decode cX2_foresee 18 = .ok (.iload_n 3, 1) := by decide +kernel
theorem dX2_foresee_19 : decode cX2_foresee 19 = .ok (.ifCond .lt 8, 3) := by decide +kernel
theorem dX2_foresee_22 : decode cX2_foresee 22 = .ok (.iload_n 3, 1) := by decide +kernel
theorem dX2_foresee_23 : decode cX2_foresee 23 = .ok (.iconst 4, 1) := by decide +kernel
theorem dX2_foresee_24 : decode cX2_foresee 24 = .ok (.if_icmp .lt 13, 3) := by decide +kernel
theorem dX2_foresee_27 : decode cX2_foresee 27 = .ok (.new 78, 3) := by decide +kernel
theorem dX2_foresee_30 : decode cX2_foresee 30 = .ok (.dup, 1) := by decide +kernel
theorem dX2_foresee_31 : decode cX2_foresee 31 = .ok (.ldc 250, 2) := by decide +kernel
theorem dX2_foresee_33 : decode cX2_foresee 33 = .ok (.invokespecial 82, 3) := by decide +kernel
theorem dX2_foresee_36 : decode cX2_foresee 36 = .ok (.athrow, 1) := by decide +kernel
theorem dX2_foresee_37 : decode cX2_foresee 37 = .ok (.iload_n 2, 1) := by decide +kernel
theorem dX2_foresee_38 : decode cX2_foresee 38 = .ok (.iconst 1, 1) := by decide +kernel
theorem dX2_foresee_39 : decode cX2_foresee 39 = .ok (.if_icmp .lt 9, 3) := by decide +kernel
theorem dX2_foresee_42 : decode cX2_foresee 42 = .ok (.iload_n 2, 1) := by decide +kernel
theorem dX2_foresee_43 : decode cX2_foresee 43 = .ok (.bipush 60, 2) := by decide +kernel
theorem dX2_foresee_45 : decode cX2_foresee 45 = .ok (.if_icmp .le 13, 3) := by decide +kernel
theorem dX2_foresee_48 : decode cX2_foresee 48 = .ok (.new 57, 3) := by decide +kernel
theorem dX2_foresee_51 : decode cX2_foresee 51 = .ok (.dup, 1) := by decide +kernel
theorem dX2_foresee_52 : decode cX2_foresee 52 = .ok (.ldc 223, 2) := by decide +kernel
theorem dX2_foresee_54 : decode cX2_foresee 54 = .ok (.invokespecial 61, 3) := by decide +kernel
theorem dX2_foresee_57 : decode cX2_foresee 57 = .ok (.athrow, 1) := by decide +kernel
theorem dX2_foresee_58 : decode cX2_foresee 58 = .ok (.aload_n 0, 1) := by decide +kernel
theorem dX2_foresee_59 : decode cX2_foresee 59 = .ok (.getfield 225, 3) := by decide +kernel
theorem dX2_foresee_62 : decode cX2_foresee 62 = .ok (.iload_n 2, 1) := by decide +kernel
theorem dX2_foresee_63 : decode cX2_foresee 63 = .ok (.iadd, 1) := by decide +kernel
theorem dX2_foresee_64 : decode cX2_foresee 64 = .ok (.sipush 1200, 3) := by decide +kernel
theorem dX2_foresee_67 : decode cX2_foresee 67 = .ok (.if_icmp .le 13, 3) := by decide +kernel
theorem dX2_foresee_70 : decode cX2_foresee 70 = .ok (.new 69, 3) := by decide +kernel
theorem dX2_foresee_73 : decode cX2_foresee 73 = .ok (.dup, 1) := by decide +kernel
theorem dX2_foresee_74 : decode cX2_foresee 74 = .ok (.ldc 228, 2) := by decide +kernel
theorem dX2_foresee_76 : decode cX2_foresee 76 = .ok (.invokespecial 73, 3) := by decide +kernel
theorem dX2_foresee_79 : decode cX2_foresee 79 = .ok (.athrow, 1) := by decide +kernel
theorem dX2_foresee_80 : decode cX2_foresee 80 = .ok (.aload_n 0, 1) := by decide +kernel
theorem dX2_foresee_81 : decode cX2_foresee 81 = .ok (.getfield 35, 3) := by decide +kernel
theorem dX2_foresee_84 : decode cX2_foresee 84 = .ok (.aload_n 0, 1) := by decide +kernel
theorem dX2_foresee_85 : decode cX2_foresee 85 = .ok (.getfield 30, 3) := by decide +kernel
theorem dX2_foresee_88 : decode cX2_foresee 88 = .ok (.iload_n 1, 1) := by decide +kernel
theorem dX2_foresee_89 : decode cX2_foresee 89 = .ok (.aaload, 1) := by decide +kernel
theorem dX2_foresee_90 : decode cX2_foresee 90 = .ok (.invokevirtual 252, 3) := by decide +kernel
theorem dX2_foresee_93 : decode cX2_foresee 93 = .ok (.iconst 0, 1) := by decide +kernel
theorem dX2_foresee_94 : decode cX2_foresee 94 = .ok (.istore 4, 2) := by decide +kernel
theorem dX2_foresee_96 : decode cX2_foresee 96 = .ok (.iload 4, 2) := by decide +kernel
theorem dX2_foresee_98 : decode cX2_foresee 98 = .ok (.iload_n 2, 1) := by decide +kernel
theorem dX2_foresee_99 : decode cX2_foresee 99 = .ok (.if_icmp .ge 31, 3) := by decide +kernel
theorem dX2_foresee_102 : decode cX2_foresee 102 = .ok (.aload_n 0, 1) := by decide +kernel
theorem dX2_foresee_103 : decode cX2_foresee 103 = .ok (.getfield 35, 3) := by decide +kernel
theorem dX2_foresee_106 : decode cX2_foresee 106 = .ok (.aload_n 0, 1) := by decide +kernel
theorem dX2_foresee_107 : decode cX2_foresee 107 = .ok (.getfield 53, 3) := by decide +kernel
theorem dX2_foresee_110 : decode cX2_foresee 110 = .ok (.aload_n 0, 1) := by decide +kernel
theorem dX2_foresee_111 : decode cX2_foresee 111 = .ok (.getfield 225, 3) := by decide +kernel
theorem dX2_foresee_114 : decode cX2_foresee 114 = .ok (.iload 4, 2) := by decide +kernel
theorem dX2_foresee_116 : decode cX2_foresee 116 = .ok (.iadd, 1) := by decide +kernel
theorem dX2_foresee_117 : decode cX2_foresee 117 = .ok (.invokestatic 256, 3) := by decide +kernel
theorem dX2_foresee_120 : decode cX2_foresee 120 = .ok (.invokevirtual 259, 3) := by decide +kernel
theorem dX2_foresee_123 : decode cX2_foresee 123 = .ok (.pop, 1) := by decide +kernel
theorem dX2_foresee_124 : decode cX2_foresee 124 = .ok (.iinc 4 1, 3) := by decide +kernel
theorem dX2_foresee_127 : decode cX2_foresee 127 = .ok (.goto (-31), 3) := by decide +kernel
theorem dX2_foresee_130 : decode cX2_foresee 130 = .ok (.iload_n 3, 1) := by decide +kernel
theorem dX2_foresee_131 : decode cX2_foresee 131 = .ok (.tableswitch 51 0 2 #[25, 33, 43], 25) := by decide +kernel
theorem dX2_foresee_156 : decode cX2_foresee 156 = .ok (.aload_n 0, 1) := by decide +kernel
theorem dX2_foresee_157 : decode cX2_foresee 157 = .ok (.getfield 35, 3) := by decide +kernel
theorem dX2_foresee_160 : decode cX2_foresee 160 = .ok (.invokevirtual 172, 3) := by decide +kernel
theorem dX2_foresee_163 : decode cX2_foresee 163 = .ok (.ireturn, 1) := by decide +kernel
theorem dX2_foresee_164 : decode cX2_foresee 164 = .ok (.aload_n 0, 1) := by decide +kernel
theorem dX2_foresee_165 : decode cX2_foresee 165 = .ok (.getfield 35, 3) := by decide +kernel
theorem dX2_foresee_168 : decode cX2_foresee 168 = .ok (.getfield 206, 3) := by decide +kernel
theorem dX2_foresee_171 : decode cX2_foresee 171 = .ok (.iconst 4, 1) := by decide +kernel
theorem dX2_foresee_172 : decode cX2_foresee 172 = .ok (.iaload, 1) := by decide +kernel
theorem dX2_foresee_173 : decode cX2_foresee 173 = .ok (.ireturn, 1) := by decide +kernel
theorem dX2_foresee_174 : decode cX2_foresee 174 = .ok (.aload_n 0, 1) := by decide +kernel
theorem dX2_foresee_175 : decode cX2_foresee 175 = .ok (.getfield 35, 3) := by decide +kernel
theorem dX2_foresee_178 : decode cX2_foresee 178 = .ok (.getfield 263, 3) := by decide +kernel
theorem dX2_foresee_181 : decode cX2_foresee 181 = .ok (.ireturn, 1) := by decide +kernel
theorem dX2_foresee_182 : decode cX2_foresee 182 = .ok (.aload_n 0, 1) := by decide +kernel
theorem dX2_foresee_183 : decode cX2_foresee 183 = .ok (.getfield 35, 3) := by decide +kernel
theorem dX2_foresee_186 : decode cX2_foresee 186 = .ok (.invokevirtual 266, 3) := by decide +kernel
theorem dX2_foresee_189 : decode cX2_foresee 189 = .ok (.ireturn, 1) := by decide +kernel
set_option maxRecDepth 20000 in
theorem ggX2_blend_X2_findBestBlend : GoodIn wsX2_blend wsX2_findBestBlend := goodIn_r _ [15, 6, 16, 17, 18, 19, 20, 21, 22, 23, 24, 25, 26, 27, 28, 29, 30, 31, 32, 33, 34, 35, 36, 37, 38, 39, 40, 41, 14, 42, 43, 44, 45, 46, 47, 48, 49, 50, 51, 52, 53, 54, 55, 56, 57, 58, 59, 60, 61, 62, 63, 64, 65, 66, 67, 68, 69, 70, 71, 72, 73, 74, 75, 76, 77, 78, 79, 80, 81, 82, 83, 84, 85, 86, 87, 88, 89, 90, 91, 92, 93] (by decide +kernel) (by decide +kernel)
set_option maxRecDepth 20000 in
theorem gX2_blend_X2_findBestBlend : GoodIn wsX2_blend (wsV RX2 272 RX2 yX2_findBestBlend wsX2_findBestBlend) := goodIn_app (goodIn_of _ (by decide +kernel)) ggX2_blend_X2_findBestBlend
theorem dX2_blend_0 : decode cX2_blend 0 = .ok (.iload_n 1, 1) := by decide +kernel
theorem dX2_blend_1 : decode cX2_blend 1 = .ok (.ifCond .lt 10, 3) := by decide +kernel
theorem dX2_blend_4 : decode cX2_blend 4 = .ok (.iload_n 1, 1) := by decide +kernel
theorem dX2_blend_5 : decode cX2_blend 5 = .ok (.ldc_w 269, 3) := by decide +kernel
theorem dX2_blend_8 : decode cX2_blend 8 = .ok (.if_icmp .le 14, 3) := by decide +kernel
theorem dX2_blend_11 : decode cX2_blend 11 = .ok (.new 57, 3) := by decide +kernel
theorem dX2_blend_14 : decode cX2_blend 14 = .ok (.dup, 1) := by decide +kernel
theorem dX2_blend_15 : decode cX2_blend 15 = .ok (.ldc_w 270, 3) := by decide +kernel
theorem dX2_blend_18 : decode cX2_blend 18 = .ok (.invokespecial 61, 3) := by decide +kernel
theorem dX2_blend_21 : decode cX2_blend 21 = .ok (.athrow, 1) := by decide +kernel
theorem dX2_blend_22 : decode cX2_blend 22 = .ok (.iload_n 2, 1) := by decide +kernel
theorem dX2_blend_23 : decode cX2_blend 23 = .ok (.ifCond .lt 8, 3) := by decide +kernel
theorem dX2_blend_26 : decode cX2_blend 26 = .ok (.iload_n 2, 1) := by decide +kernel
theorem dX2_blend_27 : decode cX2_blend 27 = .ok (.iconst 4, 1) := by decide +kernel
theorem dX2_blend_28 : decode cX2_blend 28 = .ok (.if_icmp .lt 13, 3) := by decide +kernel
theorem dX2_blend_31 : decode cX2_blend 31 = .ok (.new 78, 3) := by decide +kernel
theorem dX2_blend_34 : decode cX2_blend 34 = .ok (.dup, 1) := by decide +kernel
theorem dX2_blend_35 : decode cX2_blend 35 = .ok (.ldc 250, 2) := by decide +kernel
theorem dX2_blend_37 : decode cX2_blend 37 = .ok (.invokespecial 82, 3) := by decide +kernel
theorem dX2_blend_40 : decode cX2_blend 40 = .ok (.athrow, 1) := by decide +kernel
theorem dX2_blend_41 : decode cX2_blend 41 = .ok (.aload_n 0, 1) := by decide +kernel
theorem dX2_blend_42 : decode cX2_blend 42 = .ok (.iload_n 1, 1) := by decide +kernel
theorem dX2_blend_43 : decode cX2_blend 43 = .ok (.invokevirtual 272, 3) := by decide +kernel
theorem dX2_blend_46 : decode cX2_blend 46 = .ok (.iload_n 2, 1) := by decide +kernel
theorem dX2_blend_47 : decode cX2_blend 47 = .ok (.tableswitch 49 0 2 #[25, 33, 41], 25) := by decide +kernel
theorem dX2_blend_72 : decode cX2_blend 72 = .ok (.aload_n 0, 1) := by decide +kernel
theorem dX2_blend_73 : decode cX2_blend 73 = .ok (.getfield 49, 3) := by decide +kernel
theorem dX2_blend_76 : decode cX2_blend 76 = .ok (.getfield 275, 3) := by decide +kernel
theorem dX2_blend_79 : decode cX2_blend 79 = .ok (.ireturn, 1) := by decide +kernel
theorem dX2_blend_80 : decode cX2_blend 80 = .ok (.aload_n 0, 1) := by decide +kernel
theorem dX2_blend_81 : decode cX2_blend 81 = .ok (.getfield 49, 3) := by decide +kernel
theorem dX2_blend_84 : decode cX2_blend 84 = .ok (.getfield 278, 3) := by decide +kernel
theorem dX2_blend_87 : decode cX2_blend 87 = .ok (.ireturn, 1) := by decide +kernel
theorem dX2_blend_88 : decode cX2_blend 88 = .ok (.aload_n 0, 1) := by decide +kernel
theorem dX2_blend_89 : decode cX2_blend 89 = .ok (.getfield 49, 3) := by decide +kernel
theorem dX2_blend_92 : decode cX2_blend 92 = .ok (.getfield 281, 3) := by decide +kernel
theorem dX2_blend_95 : decode cX2_blend 95 = .ok (.ireturn, 1) := by decide +kernel
theorem dX2_blend_96 : decode cX2_blend 96 = .ok (.aload_n 0, 1) := by decide +kernel
theorem dX2_blend_97 : decode cX2_blend 97 = .ok (.getfield 49, 3) := by decide +kernel
theorem dX2_blend_100 : decode cX2_blend 100 = .ok (.getfield 284, 3) := by decide +kernel
theorem dX2_blend_103 : decode cX2_blend 103 = .ok (.ireturn, 1) := by decide +kernel
set_option maxRecDepth 20000 in
theorem ggX2_taste_X2_heldByAll : GoodIn wsX2_taste wsX2_heldByAll := goodIn_r _ [8, 1, 2, 9, 10, 11, 12, 13, 14, 15, 16, 17, 18, 19, 20, 21, 22, 23, 24, 25, 26, 27, 28, 29, 30, 31, 32, 33, 34, 35, 36, 37, 38, 39, 40, 41, 42] (by decide +kernel) (by decide +kernel)
set_option maxRecDepth 20000 in
theorem gX2_taste_X2_heldByAll : GoodIn wsX2_taste (wsV RX2 244 RX2 yX2_heldByAll wsX2_heldByAll) := goodIn_app (goodIn_of _ (by decide +kernel)) ggX2_taste_X2_heldByAll
theorem dX2_taste_0 : decode cX2_taste 0 = .ok (.aload_n 0, 1) := by decide +kernel
theorem dX2_taste_1 : decode cX2_taste 1 = .ok (.invokevirtual 244, 3) := by decide +kernel
theorem dX2_taste_4 : decode cX2_taste 4 = .ok (.istore_n 1, 1) := by decide +kernel
theorem dX2_taste_5 : decode cX2_taste 5 = .ok (.iload_n 1, 1) := by decide +kernel
theorem dX2_taste_6 : decode cX2_taste 6 = .ok (.ifCond .ne 5, 3) := by decide +kernel
theorem dX2_taste_9 : decode cX2_taste 9 = .ok (.dconst 0, 1) := by decide +kernel
theorem dX2_taste_10 : decode cX2_taste 10 = .ok (.dreturn, 1) := by decide +kernel
theorem dX2_taste_11 : decode cX2_taste 11 = .ok (.lconst 0, 1) := by decide +kernel
theorem dX2_taste_12 : decode cX2_taste 12 = .ok (.lstore_n 2, 1) := by decide +kernel
theorem dX2_taste_13 : decode cX2_taste 13 = .ok (.iconst 0, 1) := by decide +kernel
theorem dX2_taste_14 : decode cX2_taste 14 = .ok (.istore 4, 2) := by decide +kernel
theorem dX2_taste_16 : decode cX2_taste 16 = .ok (.iload 4, 2) := by decide +kernel
theorem dX2_taste_18 : decode cX2_taste 18 = .ok (.aload_n 0, 1) := by decide +kernel
theorem dX2_taste_19 : decode cX2_taste 19 = .ok (.getfield 114, 3) := by decide +kernel
theorem dX2_taste_22 : decode cX2_taste 22 = .ok (.if_icmp .ge 23, 3) := by decide +kernel
theorem dX2_taste_25 : decode cX2_taste 25 = .ok (.lload_n 2, 1) := by decide +kernel
theorem dX2_taste_26 : decode cX2_taste 26 = .ok (.aload_n 0, 1) := by decide +kernel
theorem dX2_taste_27 : decode cX2_taste 27 = .ok (.getfield 30, 3) := by decide +kernel
theorem dX2_taste_30 : decode cX2_taste 30 = .ok (.iload 4, 2) := by decide +kernel
theorem dX2_taste_32 : decode cX2_taste 32 = .ok (.aaload, 1) := by decide +kernel
theorem dX2_taste_33 : decode cX2_taste 33 = .ok (.getfield 263, 3) := by decide +kernel
theorem dX2_taste_36 : decode cX2_taste 36 = .ok (.i2l, 1) := by decide +kernel
theorem dX2_taste_37 : decode cX2_taste 37 = .ok (.ladd, 1) := by decide +kernel
theorem dX2_taste_38 : decode cX2_taste 38 = .ok (.lstore_n 2, 1) := by decide +kernel
theorem dX2_taste_39 : decode cX2_taste 39 = .ok (.iinc 4 1, 3) := by decide +kernel
theorem dX2_taste_42 : decode cX2_taste 42 = .ok (.goto (-26), 3) := by decide +kernel
theorem dX2_taste_45 : decode cX2_taste 45 = .ok (.lload_n 2, 1) := by decide +kernel
theorem dX2_taste_46 : decode cX2_taste 46 = .ok (.l2d, 1) := by decide +kernel
theorem dX2_taste_47 : decode cX2_taste 47 = .ok (.iload_n 1, 1) := by decide +kernel
theorem dX2_taste_48 : decode cX2_taste 48 = .ok (.i2d, 1) := by decide +kernel
theorem dX2_taste_49 : decode cX2_taste 49 = .ok (.ddiv, 1) := by decide +kernel
theorem dX2_taste_50 : decode cX2_taste 50 = .ok (.dreturn, 1) := by decide +kernel
set_option maxRecDepth 20000 in
theorem ggX2_digest_X2_count : GoodIn wsX2_digest wsX2_count := goodIn_ca (goodIn_r _ [16, 17, 18, 19, 3, 7, 11, 20, 21, 22, 23, 24, 15, 25, 6, 26, 27, 28, 29, 30, 31, 32, 33, 34, 35, 36, 37, 38, 39, 40, 41, 42, 43, 44, 45, 46, 80, 81, 82, 83, 84, 85, 86, 87, 88, 89, 90, 91, 92, 93, 94, 95, 96, 97, 98, 99, 100, 101, 102, 103, 104, 105, 106, 107] (by decide +kernel) (by decide +kernel)) (goodIn_sub (fun _ h => List.mem_cons_of_mem _ (List.mem_append_right _ h)) (by decide +kernel))
set_option maxRecDepth 20000 in
theorem gX2_digest_X2_count : GoodIn wsX2_digest (wsV RX2 291 RX2 yX2_count wsX2_count) := goodIn_app (goodIn_of _ (by decide +kernel)) ggX2_digest_X2_count
set_option maxRecDepth 20000 in
theorem ggX2_digest_X2_digestCask : GoodIn wsX2_digest wsX2_digestCask := goodIn_r _ [50, 2, 30, 51, 52, 53, 54, 55, 15, 56, 46, 57, 58, 59, 60, 61, 62, 31, 22, 23, 24, 25, 3, 6, 63, 64, 65, 39, 66, 67, 36, 37, 38, 40, 41, 68, 69, 70, 71, 72, 73, 74, 75, 76, 77, 78, 79, 80, 81, 82, 83, 84, 85, 86, 87, 88, 89, 90, 91, 92, 93, 94, 95, 96, 97, 98, 99, 100, 101, 102, 103, 104, 105, 106, 107] (by decide +kernel) (by decide +kernel)
set_option maxRecDepth 20000 in
theorem gX2_digest_X2_digestCask : GoodIn wsX2_digest (wsV RX2 294 RX2 yX2_digestCask wsX2_digestCask) := goodIn_app (goodIn_of _ (by decide +kernel)) ggX2_digest_X2_digestCask
theorem dX2_digest_0 : decode cX2_digest 0 = .ok (.ldc2_w 287, 3) := by decide +kernel
theorem dX2_digest_3 : decode cX2_digest 3 = .ok (.lstore_n 1, 1) := by decide +kernel
theorem dX2_digest_4 : decode cX2_digest 4 = .ok (.iconst 0, 1) := by decide +kernel
theorem dX2_digest_5 : decode cX2_digest 5 = .ok (.istore_n 3, 1) := by decide +kernel
theorem dX2_digest_6 : decode cX2_digest 6 = .ok (.iload_n 3, 1) := by decide +kernel
theorem dX2_digest_7 : decode cX2_digest 7 = .ok (.bipush 10, 2) := by decide +kernel
theorem dX2_digest_9 : decode cX2_digest 9 = .ok (.if_icmp .ge 22, 3) := by decide +kernel
theorem dX2_digest_12 : decode cX2_digest 12 = .ok (.lload_n 1, 1) := by decide +kernel
theorem dX2_digest_13 : decode cX2_digest 13 = .ok (.ldc2_w 289, 3) := by decide +kernel
theorem dX2_digest_16 : decode cX2_digest 16 = .ok (.lmul, 1) := by decide +kernel
theorem dX2_digest_17 : decode cX2_digest 17 = .ok (.aload_n 0, 1) := by decide +kernel
theorem dX2_digest_18 : decode cX2_digest 18 = .ok (.iload_n 3, 1) := by decide +kernel
theorem dX2_digest_19 : decode cX2_digest 19 = .ok (.invokevirtual 291, 3) := by decide +kernel
theorem dX2_digest_22 : decode cX2_digest 22 = .ok (.i2l, 1) := by decide +kernel
theorem dX2_digest_23 : decode cX2_digest 23 = .ok (.ladd, 1) := by decide +kernel
theorem dX2_digest_24 : decode cX2_digest 24 = .ok (.lstore_n 1, 1) := by decide +kernel
theorem dX2_digest_25 : decode cX2_digest 25 = .ok (.iinc 3 1, 3) := by decide +kernel
theorem dX2_digest_28 : decode cX2_digest 28 = .ok (.goto (-22), 3) := by decide +kernel
theorem dX2_digest_31 : decode cX2_digest 31 = .ok (.iconst 0, 1) := by decide +kernel
theorem dX2_digest_32 : decode cX2_digest 32 = .ok (.istore_n 3, 1) := by decide +kernel
theorem dX2_digest_33 : decode cX2_digest 33 = .ok (.iload_n 3, 1) := by decide +kernel
theorem dX2_digest_34 : decode cX2_digest 34 = .ok (.aload_n 0, 1) := by decide +kernel
theorem dX2_digest_35 : decode cX2_digest 35 = .ok (.getfield 66, 3) := by decide +kernel
theorem dX2_digest_38 : decode cX2_digest 38 = .ok (.if_icmp .ge 51, 3) := by decide +kernel
theorem dX2_digest_41 : decode cX2_digest 41 = .ok (.lload_n 1, 1) := by decide +kernel
theorem dX2_digest_42 : decode cX2_digest 42 = .ok (.ldc2_w 289, 3) := by decide +kernel
theorem dX2_digest_45 : decode cX2_digest 45 = .ok (.lmul, 1) := by decide +kernel
theorem dX2_digest_46 : decode cX2_digest 46 = .ok (.aload_n 0, 1) := by decide +kernel
theorem dX2_digest_47 : decode cX2_digest 47 = .ok (.getfield 9, 3) := by decide +kernel
theorem dX2_digest_50 : decode cX2_digest 50 = .ok (.iload_n 3, 1) := by decide +kernel
theorem dX2_digest_51 : decode cX2_digest 51 = .ok (.iaload, 1) := by decide +kernel
theorem dX2_digest_52 : decode cX2_digest 52 = .ok (.i2l, 1) := by decide +kernel
theorem dX2_digest_53 : decode cX2_digest 53 = .ok (.ladd, 1) := by decide +kernel
theorem dX2_digest_54 : decode cX2_digest 54 = .ok (.lstore_n 1, 1) := by decide +kernel
theorem dX2_digest_55 : decode cX2_digest 55 = .ok (.lload_n 1, 1) := by decide +kernel
theorem dX2_digest_56 : decode cX2_digest 56 = .ok (.ldc2_w 289, 3) := by decide +kernel
theorem dX2_digest_59 : decode cX2_digest 59 = .ok (.lmul, 1) := by decide +kernel
theorem dX2_digest_60 : decode cX2_digest 60 = .ok (.aload_n 0, 1) := by decide +kernel
theorem dX2_digest_61 : decode cX2_digest 61 = .ok (.getfield 13, 3) := by decide +kernel
theorem dX2_digest_64 : decode cX2_digest 64 = .ok (.iload_n 3, 1) := by decide +kernel
theorem dX2_digest_65 : decode cX2_digest 65 = .ok (.iaload, 1) := by decide +kernel
theorem dX2_digest_66 : decode cX2_digest 66 = .ok (.i2l, 1) := by decide +kernel
theorem dX2_digest_67 : decode cX2_digest 67 = .ok (.ladd, 1) := by decide +kernel
theorem dX2_digest_68 : decode cX2_digest 68 = .ok (.lstore_n 1, 1) := by decide +kernel
theorem dX2_digest_69 : decode cX2_digest 69 = .ok (.lload_n 1, 1) := by decide +kernel
theorem dX2_digest_70 : decode cX2_digest 70 = .ok (.ldc2_w 289, 3) := by decide +kernel
theorem dX2_digest_73 : decode cX2_digest 73 = .ok (.lmul, 1) := by decide +kernel
theorem dX2_digest_74 : decode cX2_digest 74 = .ok (.aload_n 0, 1) := by decide +kernel
theorem dX2_digest_75 : decode cX2_digest 75 = .ok (.getfield 16, 3) := by decide +kernel
theorem dX2_digest_78 : decode cX2_digest 78 = .ok (.iload_n 3, 1) := by decide +kernel
theorem dX2_digest_79 : decode cX2_digest 79 = .ok (.iaload, 1) := by decide +kernel
theorem dX2_digest_80 : decode cX2_digest 80 = .ok (.i2l, 1) := by decide +kernel
theorem dX2_digest_81 : decode cX2_digest 81 = .ok (.ladd, 1) := by decide +kernel
theorem dX2_digest_82 : decode cX2_digest 82 = .ok (.lstore_n 1, 1) := by decide +kernel
theorem dX2_digest_83 : decode cX2_digest 83 = .ok (.iinc 3 1, 3) := by decide +kernel
theorem dX2_digest_86 : decode cX2_digest 86 = .ok (.goto (-53), 3) := by decide +kernel
theorem dX2_digest_89 : decode cX2_digest 89 = .ok (.iconst 0, 1) := by decide +kernel
theorem dX2_digest_90 : decode cX2_digest 90 = .ok (.istore_n 3, 1) := by decide +kernel
theorem dX2_digest_91 : decode cX2_digest 91 = .ok (.iload_n 3, 1) := by decide +kernel
theorem dX2_digest_92 : decode cX2_digest 92 = .ok (.aload_n 0, 1) := by decide +kernel
theorem dX2_digest_93 : decode cX2_digest 93 = .ok (.getfield 92, 3) := by decide +kernel
theorem dX2_digest_96 : decode cX2_digest 96 = .ok (.if_icmp .ge 51, 3) := by decide +kernel
theorem dX2_digest_99 : decode cX2_digest 99 = .ok (.lload_n 1, 1) := by decide +kernel
theorem dX2_digest_100 : decode cX2_digest 100 = .ok (.ldc2_w 289, 3) := by decide +kernel
theorem dX2_digest_103 : decode cX2_digest 103 = .ok (.lmul, 1) := by decide +kernel
theorem dX2_digest_104 : decode cX2_digest 104 = .ok (.aload_n 0, 1) := by decide +kernel
theorem dX2_digest_105 : decode cX2_digest 105 = .ok (.getfield 19, 3) := by decide +kernel
theorem dX2_digest_108 : decode cX2_digest 108 = .ok (.iload_n 3, 1) := by decide +kernel
theorem dX2_digest_109 : decode cX2_digest 109 = .ok (.iaload, 1) := by decide +kernel
theorem dX2_digest_110 : decode cX2_digest 110 = .ok (.i2l, 1) := by decide +kernel
theorem dX2_digest_111 : decode cX2_digest 111 = .ok (.ladd, 1) := by decide +kernel
theorem dX2_digest_112 : decode cX2_digest 112 = .ok (.lstore_n 1, 1) := by decide +kernel
theorem dX2_digest_113 : decode cX2_digest 113 = .ok (.lload_n 1, 1) := by decide +kernel
theorem dX2_digest_114 : decode cX2_digest 114 = .ok (.ldc2_w 289, 3) := by decide +kernel
theorem dX2_digest_117 : decode cX2_digest 117 = .ok (.lmul, 1) := by decide +kernel
theorem dX2_digest_118 : decode cX2_digest 118 = .ok (.aload_n 0, 1) := by decide +kernel
theorem dX2_digest_119 : decode cX2_digest 119 = .ok (.getfield 22, 3) := by decide +kernel
theorem dX2_digest_122 : decode cX2_digest 122 = .ok (.iload_n 3, 1) := by decide +kernel
theorem dX2_digest_123 : decode cX2_digest 123 = .ok (.iaload, 1) := by decide +kernel
theorem dX2_digest_124 : decode cX2_digest 124 = .ok (.i2l, 1) := by decide +kernel
theorem dX2_digest_125 : decode cX2_digest 125 = .ok (.ladd, 1) := by decide +kernel
theorem dX2_digest_126 : decode cX2_digest 126 = .ok (.lstore_n 1, 1) := by decide +kernel
theorem dX2_digest_127 : decode cX2_digest 127 = .ok (.lload_n 1, 1) := by decide +kernel
theorem dX2_digest_128 : decode cX2_digest 128 = .ok (.ldc2_w 289, 3) := by decide +kernel
theorem dX2_digest_131 : decode cX2_digest 131 = .ok (.lmul, 1) := by decide +kernel
theorem dX2_digest_132 : decode cX2_digest 132 = .ok (.aload_n 0, 1) := by decide +kernel
theorem dX2_digest_133 : decode cX2_digest 133 = .ok (.getfield 25, 3) := by decide +kernel
theorem dX2_digest_136 : decode cX2_digest 136 = .ok (.iload_n 3, 1) := by decide +kernel
theorem dX2_digest_137 : decode cX2_digest 137 = .ok (.iaload, 1) := by decide +kernel
theorem dX2_digest_138 : decode cX2_digest 138 = .ok (.i2l, 1) := by decide +kernel
theorem dX2_digest_139 : decode cX2_digest 139 = .ok (.ladd, 1) := by decide +kernel
theorem dX2_digest_140 : decode cX2_digest 140 = .ok (.lstore_n 1, 1) := by decide +kernel
theorem dX2_digest_141 : decode cX2_digest 141 = .ok (.iinc 3 1, 3) := by decide +kernel
theorem dX2_digest_144 : decode cX2_digest 144 = .ok (.goto (-53), 3) := by decide +kernel
theorem dX2_digest_147 : decode cX2_digest 147 = .ok (.iconst 0, 1) := by decide +kernel
theorem dX2_digest_148 : decode cX2_digest 148 = .ok (.istore_n 3, 1) := by decide +kernel
theorem dX2_digest_149 : decode cX2_digest 149 = .ok (.iload_n 3, 1) := by decide +kernel
theorem dX2_digest_150 : decode cX2_digest 150 = .ok (.aload_n 0, 1) := by decide +kernel
theorem dX2_digest_151 : decode cX2_digest 151 = .ok (.getfield 114, 3) := by decide +kernel
theorem dX2_digest_154 : decode cX2_digest 154 = .ok (.if_icmp .ge 16, 3) := by decide +kernel
theorem dX2_digest_157 : decode cX2_digest 157 = .ok (.aload_n 0, 1) := by decide +kernel
theorem dX2_digest_158 : decode cX2_digest 158 = .ok (.lload_n 1, 1) := by decide +kernel
theorem dX2_digest_159 : decode cX2_digest 159 = .ok (.iload_n 3, 1) := by decide +kernel
theorem dX2_digest_160 : decode cX2_digest 160 = .ok (.invokevirtual 294, 3) := by decide +kernel
theorem dX2_digest_163 : decode cX2_digest 163 = .ok (.lstore_n 1, 1) := by decide +kernel
theorem dX2_digest_164 : decode cX2_digest 164 = .ok (.iinc 3 1, 3) := by decide +kernel
theorem dX2_digest_167 : decode cX2_digest 167 = .ok (.goto (-18), 3) := by decide +kernel
theorem dX2_digest_170 : decode cX2_digest 170 = .ok (.lload_n 1, 1) := by decide +kernel
theorem dX2_digest_171 : decode cX2_digest 171 = .ok (.lreturn, 1) := by decide +kernel
theorem dX2_isStave_0 : decode cX2_isStave 0 = .ok (.iload_n 1, 1) := by decide +kernel
theorem dX2_isStave_1 : decode cX2_isStave 1 = .ok (.ifCond .lt 15, 3) := by decide +kernel
theorem dX2_isStave_4 : decode cX2_isStave 4 = .ok (.iload_n 1, 1) := by decide +kernel
theorem dX2_isStave_5 : decode cX2_isStave 5 = .ok (.aload_n 0, 1) := by decide +kernel
theorem dX2_isStave_6 : decode cX2_isStave 6 = .ok (.getfield 66, 3) := by decide +kernel
theorem dX2_isStave_9 : decode cX2_isStave 9 = .ok (.if_icmp .ge 7, 3) := by decide +kernel
theorem dX2_isStave_12 : decode cX2_isStave 12 = .ok (.iconst 1, 1) := by decide +kernel
theorem dX2_isStave_13 : decode cX2_isStave 13 = .ok (.goto 4, 3) := by decide +kernel
theorem dX2_isStave_16 : decode cX2_isStave 16 = .ok (.iconst 0, 1) := by decide +kernel
theorem dX2_isStave_17 : decode cX2_isStave 17 = .ok (.ireturn, 1) := by decide +kernel
theorem dX2_isSort_0 : decode cX2_isSort 0 = .ok (.iload_n 1, 1) := by decide +kernel
theorem dX2_isSort_1 : decode cX2_isSort 1 = .ok (.ifCond .lt 15, 3) := by decide +kernel
theorem dX2_isSort_4 : decode cX2_isSort 4 = .ok (.iload_n 1, 1) := by decide +kernel
theorem dX2_isSort_5 : decode cX2_isSort 5 = .ok (.aload_n 0, 1) := by decide +kernel
theorem dX2_isSort_6 : decode cX2_isSort 6 = .ok (.getfield 92, 3) := by decide +kernel
theorem dX2_isSort_9 : decode cX2_isSort 9 = .ok (.if_icmp .ge 7, 3) := by decide +kernel
theorem dX2_isSort_12 : decode cX2_isSort 12 = .ok (.iconst 1, 1) := by decide +kernel
theorem dX2_isSort_13 : decode cX2_isSort 13 = .ok (.goto 4, 3) := by decide +kernel
theorem dX2_isSort_16 : decode cX2_isSort 16 = .ok (.iconst 0, 1) := by decide +kernel
theorem dX2_isSort_17 : decode cX2_isSort 17 = .ok (.ireturn, 1) := by decide +kernel
theorem dX2_isCask_0 : decode cX2_isCask 0 = .ok (.iload_n 1, 1) := by decide +kernel
theorem dX2_isCask_1 : decode cX2_isCask 1 = .ok (.ifCond .lt 15, 3) := by decide +kernel
theorem dX2_isCask_4 : decode cX2_isCask 4 = .ok (.iload_n 1, 1) := by decide +kernel
theorem dX2_isCask_5 : decode cX2_isCask 5 = .ok (.aload_n 0, 1) := by decide +kernel
theorem dX2_isCask_6 : decode cX2_isCask 6 = .ok (.getfield 114, 3) := by decide +kernel
theorem dX2_isCask_9 : decode cX2_isCask 9 = .ok (.if_icmp .ge 7, 3) := by decide +kernel
theorem dX2_isCask_12 : decode cX2_isCask 12 = .ok (.iconst 1, 1) := by decide +kernel
theorem dX2_isCask_13 : decode cX2_isCask 13 = .ok (.goto 4, 3) := by decide +kernel
theorem dX2_isCask_16 : decode cX2_isCask 16 = .ok (.iconst 0, 1) := by decide +kernel
theorem dX2_isCask_17 : decode cX2_isCask 17 = .ok (.ireturn, 1) := by decide +kernel
theorem dX2_isUsable_0 : decode cX2_isUsable 0 = .ok (.aload_n 0, 1) := by decide +kernel
theorem dX2_isUsable_1 : decode cX2_isUsable 1 = .ok (.getfield 16, 3) := by decide +kernel
theorem dX2_isUsable_4 : decode cX2_isUsable 4 = .ok (.iload_n 1, 1) := by decide +kernel
theorem dX2_isUsable_5 : decode cX2_isUsable 5 = .ok (.iaload, 1) := by decide +kernel
theorem dX2_isUsable_6 : decode cX2_isUsable 6 = .ok (.iconst (-1), 1) := by decide +kernel
theorem dX2_isUsable_7 : decode cX2_isUsable 7 = .ok (.if_icmp .ne 18, 3) := by decide +kernel
theorem dX2_isUsable_10 : decode cX2_isUsable 10 = .ok (.aload_n 0, 1) := by decide +kernel
theorem dX2_isUsable_11 : decode cX2_isUsable 11 = .ok (.getfield 13, 3) := by decide +kernel
theorem dX2_isUsable_14 : decode cX2_isUsable 14 = .ok (.iload_n 1, 1) := by decide +kernel
theorem dX2_isUsable_15 : decode cX2_isUsable 15 = .ok (.iaload, 1) := by decide +kernel
theorem dX2_isUsable_16 : decode cX2_isUsable 16 = .ok (.bipush 60, 2) := by decide +kernel
theorem dX2_isUsable_18 : decode cX2_isUsable 18 = .ok (.if_icmp .lt 7, 3) := by decide +kernel
theorem dX2_isUsable_21 : decode cX2_isUsable 21 = .ok (.iconst 1, 1) := by decide +kernel
theorem dX2_isUsable_22 : decode cX2_isUsable 22 = .ok (.goto 4, 3) := by decide +kernel
theorem dX2_isUsable_25 : decode cX2_isUsable 25 = .ok (.iconst 0, 1) := by decide +kernel
theorem dX2_isUsable_26 : decode cX2_isUsable 26 = .ok (.ireturn, 1) := by decide +kernel
theorem dX2_flawsOf_0 : decode cX2_flawsOf 0 = .ok (.aload_n 0, 1) := by decide +kernel
theorem dX2_flawsOf_1 : decode cX2_flawsOf 1 = .ok (.getfield 13, 3) := by decide +kernel
theorem dX2_flawsOf_4 : decode cX2_flawsOf 4 = .ok (.iload_n 1, 1) := by decide +kernel
theorem dX2_flawsOf_5 : decode cX2_flawsOf 5 = .ok (.iaload, 1) := by decide +kernel
theorem dX2_flawsOf_6 : decode cX2_flawsOf 6 = .ok (.bipush 70, 2) := by decide +kernel
theorem dX2_flawsOf_8 : decode cX2_flawsOf 8 = .ok (.if_icmp .ge 7, 3) := by decide +kernel
theorem dX2_flawsOf_11 : decode cX2_flawsOf 11 = .ok (.iconst 1, 1) := by decide +kernel
theorem dX2_flawsOf_12 : decode cX2_flawsOf 12 = .ok (.goto 4, 3) := by decide +kernel
theorem dX2_flawsOf_15 : decode cX2_flawsOf 15 = .ok (.iconst 0, 1) := by decide +kernel
theorem dX2_flawsOf_16 : decode cX2_flawsOf 16 = .ok (.ireturn, 1) := by decide +kernel
theorem dX2_stavesAt_0 : decode cX2_stavesAt 0 = .ok (.iconst 0, 1) := by decide +kernel
theorem dX2_stavesAt_1 : decode cX2_stavesAt 1 = .ok (.istore_n 2, 1) := by decide +kernel
theorem dX2_stavesAt_2 : decode cX2_stavesAt 2 = .ok (.iconst 0, 1) := by decide +kernel
theorem dX2_stavesAt_3 : decode cX2_stavesAt 3 = .ok (.istore_n 3, 1) := by decide +kernel
theorem dX2_stavesAt_4 : decode cX2_stavesAt 4 = .ok (.iload_n 3, 1) := by decide +kernel
theorem dX2_stavesAt_5 : decode cX2_stavesAt 5 = .ok (.aload_n 0, 1) := by decide +kernel
theorem dX2_stavesAt_6 : decode cX2_stavesAt 6 = .ok (.getfield 66, 3) := by decide +kernel
theorem dX2_stavesAt_9 : decode cX2_stavesAt 9 = .ok (.if_icmp .ge 22, 3) := by decide +kernel
theorem dX2_stavesAt_12 : decode cX2_stavesAt 12 = .ok (.aload_n 0, 1) := by decide +kernel
theorem dX2_stavesAt_13 : decode cX2_stavesAt 13 = .ok (.getfield 16, 3) := by decide +kernel
theorem dX2_stavesAt_16 : decode cX2_stavesAt 16 = .ok (.iload_n 3, 1) := by decide +kernel
theorem dX2_stavesAt_17 : decode cX2_stavesAt 17 = .ok (.iaload, 1) := by decide +kernel
theorem dX2_stavesAt_18 : decode cX2_stavesAt 18 = .ok (.iload_n 1, 1) := by decide +kernel
theorem dX2_stavesAt_19 : decode cX2_stavesAt 19 = .ok (.if_icmp .ne 6, 3) := by decide +kernel
theorem dX2_stavesAt_22 : decode cX2_stavesAt 22 = .ok (.iinc 2 1, 3) := by decide +kernel
theorem dX2_stavesAt_25 : decode cX2_stavesAt 25 = .ok (.iinc 3 1, 3) := by decide +kernel
theorem dX2_stavesAt_28 : decode cX2_stavesAt 28 = .ok (.goto (-24), 3) := by decide +kernel
theorem dX2_stavesAt_31 : decode cX2_stavesAt 31 = .ok (.iload_n 2, 1) := by decide +kernel
theorem dX2_stavesAt_32 : decode cX2_stavesAt 32 = .ok (.ireturn, 1) := by decide +kernel
theorem dX2_lastStaveIn_0 : decode cX2_lastStaveIn 0 = .ok (.aload_n 0, 1) := by decide +kernel
theorem dX2_lastStaveIn_1 : decode cX2_lastStaveIn 1 = .ok (.getfield 66, 3) := by decide +kernel
theorem dX2_lastStaveIn_4 : decode cX2_lastStaveIn 4 = .ok (.iconst 1, 1) := by decide +kernel
theorem dX2_lastStaveIn_5 : decode cX2_lastStaveIn 5 = .ok (.isub, 1) := by decide +kernel
theorem dX2_lastStaveIn_6 : decode cX2_lastStaveIn 6 = .ok (.istore_n 2, 1) := by decide +kernel
theorem dX2_lastStaveIn_7 : decode cX2_lastStaveIn 7 = .ok (.iload_n 2, 1) := by decide +kernel
theorem dX2_lastStaveIn_8 : decode cX2_lastStaveIn 8 = .ok (.ifCond .lt 21, 3) := by decide +kernel
theorem dX2_lastStaveIn_11 : decode cX2_lastStaveIn 11 = .ok (.aload_n 0, 1) := by decide +kernel
theorem dX2_lastStaveIn_12 : decode cX2_lastStaveIn 12 = .ok (.getfield 16, 3) := by decide +kernel
theorem dX2_lastStaveIn_15 : decode cX2_lastStaveIn 15 = .ok (.iload_n 2, 1) := by decide +kernel
theorem dX2_lastStaveIn_16 : decode cX2_lastStaveIn 16 = .ok (.iaload, 1) := by decide +kernel
theorem dX2_lastStaveIn_17 : decode cX2_lastStaveIn 17 = .ok (.iload_n 1, 1) := by decide +kernel
theorem dX2_lastStaveIn_18 : decode cX2_lastStaveIn 18 = .ok (.if_icmp .ne 5, 3) := by decide +kernel
theorem dX2_lastStaveIn_21 : decode cX2_lastStaveIn 21 = .ok (.iload_n 2, 1) := by decide +kernel
theorem dX2_lastStaveIn_22 : decode cX2_lastStaveIn 22 = .ok (.ireturn, 1) := by decide +kernel
theorem dX2_lastStaveIn_23 : decode cX2_lastStaveIn 23 = .ok (.iinc 2 (-1), 3) := by decide +kernel
theorem dX2_lastStaveIn_26 : decode cX2_lastStaveIn 26 = .ok (.goto (-19), 3) := by decide +kernel
theorem dX2_lastStaveIn_29 : decode cX2_lastStaveIn 29 = .ok (.iconst (-1), 1) := by decide +kernel
theorem dX2_lastStaveIn_30 : decode cX2_lastStaveIn 30 = .ok (.ireturn, 1) := by decide +kernel
set_option maxRecDepth 20000 in
theorem ggX2_findSet_J7_fill_d0a16 : GoodIn wsX2_findSet wsJ7_fill_d0a16 := goodIn_r _ [8] (by decide +kernel) (by decide +kernel)
set_option maxRecDepth 20000 in
theorem gX2_findSet_J7_fill_d0a16 : GoodIn wsX2_findSet (va_wsS RX2 298 yJ7_fill_d0a16 wsJ7_fill_d0a16) := goodIn_app (goodIn_of _ (by decide +kernel)) ggX2_findSet_J7_fill_d0a16
set_option maxRecDepth 20000 in
theorem ggX2_findSet_J7_fill_53178 : GoodIn wsX2_findSet wsJ7_fill_53178 := goodIn_r _ [11] (by decide +kernel) (by decide +kernel)
set_option maxRecDepth 20000 in
theorem gX2_findSet_J7_fill_53178 : GoodIn wsX2_findSet (va_wsS RX2 304 yJ7_fill_53178 wsJ7_fill_53178) := goodIn_app (goodIn_of _ (by decide +kernel)) ggX2_findSet_J7_fill_53178
set_option maxRecDepth 20000 in
theorem ggX2_findSet_X2_isUsable : GoodIn wsX2_findSet wsX2_isUsable := goodIn_r _ [16, 17, 18, 24, 25, 26, 27, 28, 29, 30, 31, 32, 33, 34, 35, 36, 37, 38, 39, 40] (by decide +kernel) (by decide +kernel)
set_option maxRecDepth 20000 in
theorem gX2_findSet_X2_isUsable : GoodIn wsX2_findSet (wsV RX2 307 RX2 yX2_isUsable wsX2_isUsable) := goodIn_app (goodIn_of _ (by decide +kernel)) ggX2_findSet_X2_isUsable
set_option maxRecDepth 20000 in
theorem ggX2_findSet_X2_addToSets : GoodIn wsX2_findSet wsX2_addToSets := goodIn_r _ [22, 23, 3, 1, 24, 25, 26, 27, 28, 29, 30, 31, 32, 33, 34, 35, 36, 37, 38, 39, 40] (by decide +kernel) (by decide +kernel)
set_option maxRecDepth 20000 in
theorem gX2_findSet_X2_addToSets : GoodIn wsX2_findSet (wsV RX2 310 RX2 yX2_addToSets wsX2_addToSets) := goodIn_app (goodIn_of _ (by decide +kernel)) ggX2_findSet_X2_addToSets
theorem dX2_findSet_0 : decode cX2_findSet 0 = .ok (.iload_n 1, 1) := by decide +kernel
theorem dX2_findSet_1 : decode cX2_findSet 1 = .ok (.iconst 4, 1) := by decide +kernel
theorem dX2_findSet_2 : decode cX2_findSet 2 = .ok (.iadd, 1) := by decide +kernel
theorem dX2_findSet_3 : decode cX2_findSet 3 = .ok (.istore_n 2, 1) := by decide +kernel
theorem dX2_findSet_4 : decode cX2_findSet 4 = .ok (.aload_n 0, 1) := by decide +kernel
theorem dX2_findSet_5 : decode cX2_findSet 5 = .ok (.getfield 39, 3) := by decide +kernel
theorem dX2_findSet_8 : decode cX2_findSet 8 = .ok (.ldc2_w 108, 3) := by decide +kernel
theorem dX2_findSet_11 : decode cX2_findSet 11 = .ok (.invokestatic 298, 3) := by decide +kernel
theorem dX2_findSet_14 : decode cX2_findSet 14 = .ok (.aload_n 0, 1) := by decide +kernel
theorem dX2_findSet_15 : decode cX2_findSet 15 = .ok (.getfield 43, 3) := by decide +kernel
theorem dX2_findSet_18 : decode cX2_findSet 18 = .ok (.sipush 1000, 3) := by decide +kernel
theorem dX2_findSet_21 : decode cX2_findSet 21 = .ok (.invokestatic 304, 3) := by decide +kernel
theorem dX2_findSet_24 : decode cX2_findSet 24 = .ok (.aload_n 0, 1) := by decide +kernel
theorem dX2_findSet_25 : decode cX2_findSet 25 = .ok (.getfield 39, 3) := by decide +kernel
theorem dX2_findSet_28 : decode cX2_findSet 28 = .ok (.iconst 0, 1) := by decide +kernel
theorem dX2_findSet_29 : decode cX2_findSet 29 = .ok (.lconst 0, 1) := by decide +kernel
theorem dX2_findSet_30 : decode cX2_findSet 30 = .ok (.lastore, 1) := by decide +kernel
theorem dX2_findSet_31 : decode cX2_findSet 31 = .ok (.aload_n 0, 1) := by decide +kernel
theorem dX2_findSet_32 : decode cX2_findSet 32 = .ok (.getfield 43, 3) := by decide +kernel
theorem dX2_findSet_35 : decode cX2_findSet 35 = .ok (.iconst 0, 1) := by decide +kernel
theorem dX2_findSet_36 : decode cX2_findSet 36 = .ok (.iconst 0, 1) := by decide +kernel
theorem dX2_findSet_37 : decode cX2_findSet 37 = .ok (.iastore, 1) := by decide +kernel
theorem dX2_findSet_38 : decode cX2_findSet 38 = .ok (.aload_n 0, 1) := by decide +kernel
theorem dX2_findSet_39 : decode cX2_findSet 39 = .ok (.getfield 66, 3) := by decide +kernel
theorem dX2_findSet_42 : decode cX2_findSet 42 = .ok (.iconst 1, 1) := by decide +kernel
theorem dX2_findSet_43 : decode cX2_findSet 43 = .ok (.isub, 1) := by decide +kernel
theorem dX2_findSet_44 : decode cX2_findSet 44 = .ok (.istore_n 3, 1) := by decide +kernel
theorem dX2_findSet_45 : decode cX2_findSet 45 = .ok (.iload_n 3, 1) := by decide +kernel
theorem dX2_findSet_46 : decode cX2_findSet 46 = .ok (.ifCond .lt 23, 3) := by decide +kernel
theorem dX2_findSet_49 : decode cX2_findSet 49 = .ok (.aload_n 0, 1) := by decide +kernel
theorem dX2_findSet_50 : decode cX2_findSet 50 = .ok (.iload_n 3, 1) := by decide +kernel
theorem dX2_findSet_51 : decode cX2_findSet 51 = .ok (.invokevirtual 307, 3) := by decide +kernel
theorem dX2_findSet_54 : decode cX2_findSet 54 = .ok (.ifCond .eq 9, 3) := by decide +kernel
theorem dX2_findSet_57 : decode cX2_findSet 57 = .ok (.aload_n 0, 1) := by decide +kernel
theorem dX2_findSet_58 : decode cX2_findSet 58 = .ok (.iload_n 3, 1) := by decide +kernel
theorem dX2_findSet_59 : decode cX2_findSet 59 = .ok (.iload_n 2, 1) := by decide +kernel
theorem dX2_findSet_60 : decode cX2_findSet 60 = .ok (.invokevirtual 310, 3) := by decide +kernel
theorem dX2_findSet_63 : decode cX2_findSet 63 = .ok (.iinc 3 (-1), 3) := by decide +kernel
theorem dX2_findSet_66 : decode cX2_findSet 66 = .ok (.goto (-21), 3) := by decide +kernel
theorem dX2_findSet_69 : decode cX2_findSet 69 = .ok (.iload_n 1, 1) := by decide +kernel
theorem dX2_findSet_70 : decode cX2_findSet 70 = .ok (.istore_n 3, 1) := by decide +kernel
theorem dX2_findSet_71 : decode cX2_findSet 71 = .ok (.iload_n 1, 1) := by decide +kernel
theorem dX2_findSet_72 : decode cX2_findSet 72 = .ok (.iconst 1, 1) := by decide +kernel
theorem dX2_findSet_73 : decode cX2_findSet 73 = .ok (.iadd, 1) := by decide +kernel
theorem dX2_findSet_74 : decode cX2_findSet 74 = .ok (.istore 4, 2) := by decide +kernel
theorem dX2_findSet_76 : decode cX2_findSet 76 = .ok (.iload 4, 2) := by decide +kernel
theorem dX2_findSet_78 : decode cX2_findSet 78 = .ok (.iload_n 2, 1) := by decide +kernel
theorem dX2_findSet_79 : decode cX2_findSet 79 = .ok (.if_icmp .gt 28, 3) := by decide +kernel
theorem dX2_findSet_82 : decode cX2_findSet 82 = .ok (.aload_n 0, 1) := by decide +kernel
theorem dX2_findSet_83 : decode cX2_findSet 83 = .ok (.getfield 43, 3) := by decide +kernel
theorem dX2_findSet_86 : decode cX2_findSet 86 = .ok (.iload 4, 2) := by decide +kernel
theorem dX2_findSet_88 : decode cX2_findSet 88 = .ok (.iaload, 1) := by decide +kernel
theorem dX2_findSet_89 : decode cX2_findSet 89 = .ok (.aload_n 0, 1) := by decide +kernel
theorem dX2_findSet_90 : decode cX2_findSet 90 = .ok (.getfield 43, 3) := by decide +kernel
theorem dX2_findSet_93 : decode cX2_findSet 93 = .ok (.iload_n 3, 1) := by decide +kernel
theorem dX2_findSet_94 : decode cX2_findSet 94 = .ok (.iaload, 1) := by decide +kernel
theorem dX2_findSet_95 : decode cX2_findSet 95 = .ok (.if_icmp .ge 6, 3) := by decide +kernel
theorem dX2_findSet_98 : decode cX2_findSet 98 = .ok (.iload 4, 2) := by decide +kernel
theorem dX2_findSet_100 : decode cX2_findSet 100 = .ok (.istore_n 3, 1) := by decide +kernel
theorem dX2_findSet_101 : decode cX2_findSet 101 = .ok (.iinc 4 1, 3) := by decide +kernel
theorem dX2_findSet_104 : decode cX2_findSet 104 = .ok (.goto (-28), 3) := by decide +kernel
theorem dX2_findSet_107 : decode cX2_findSet 107 = .ok (.aload_n 0, 1) := by decide +kernel
theorem dX2_findSet_108 : decode cX2_findSet 108 = .ok (.getfield 39, 3) := by decide +kernel
theorem dX2_findSet_111 : decode cX2_findSet 111 = .ok (.iload_n 3, 1) := by decide +kernel
theorem dX2_findSet_112 : decode cX2_findSet 112 = .ok (.laload, 1) := by decide +kernel
theorem dX2_findSet_113 : decode cX2_findSet 113 = .ok (.lreturn, 1) := by decide +kernel
theorem dX2_addToSets_0 : decode cX2_addToSets 0 = .ok (.aload_n 0, 1) := by decide +kernel
theorem dX2_addToSets_1 : decode cX2_addToSets 1 = .ok (.getfield 9, 3) := by decide +kernel
theorem dX2_addToSets_4 : decode cX2_addToSets 4 = .ok (.iload_n 1, 1) := by decide +kernel
theorem dX2_addToSets_5 : decode cX2_addToSets 5 = .ok (.iaload, 1) := by decide +kernel
theorem dX2_addToSets_6 : decode cX2_addToSets 6 = .ok (.istore_n 3, 1) := by decide +kernel
theorem dX2_addToSets_7 : decode cX2_addToSets 7 = .ok (.iload_n 2, 1) := by decide +kernel
theorem dX2_addToSets_8 : decode cX2_addToSets 8 = .ok (.istore 4, 2) := by decide +kernel
theorem dX2_addToSets_10 : decode cX2_addToSets 10 = .ok (.iload 4, 2) := by decide +kernel
theorem dX2_addToSets_12 : decode cX2_addToSets 12 = .ok (.iload_n 3, 1) := by decide +kernel
theorem dX2_addToSets_13 : decode cX2_addToSets 13 = .ok (.if_icmp .lt 63, 3) := by decide +kernel
theorem dX2_addToSets_16 : decode cX2_addToSets 16 = .ok (.aload_n 0, 1) := by decide +kernel
theorem dX2_addToSets_17 : decode cX2_addToSets 17 = .ok (.getfield 43, 3) := by decide +kernel
theorem dX2_addToSets_20 : decode cX2_addToSets 20 = .ok (.iload 4, 2) := by decide +kernel
theorem dX2_addToSets_22 : decode cX2_addToSets 22 = .ok (.iload_n 3, 1) := by decide +kernel
theorem dX2_addToSets_23 : decode cX2_addToSets 23 = .ok (.isub, 1) := by decide +kernel
theorem dX2_addToSets_24 : decode cX2_addToSets 24 = .ok (.iaload, 1) := by decide +kernel
theorem dX2_addToSets_25 : decode cX2_addToSets 25 = .ok (.iconst 1, 1) := by decide +kernel
theorem dX2_addToSets_26 : decode cX2_addToSets 26 = .ok (.iadd, 1) := by decide +kernel
theorem dX2_addToSets_27 : decode cX2_addToSets 27 = .ok (.istore 5, 2) := by decide +kernel
theorem dX2_addToSets_29 : decode cX2_addToSets 29 = .ok (.iload 5, 2) := by decide +kernel
theorem dX2_addToSets_31 : decode cX2_addToSets 31 = .ok (.aload_n 0, 1) := by decide +kernel
theorem dX2_addToSets_32 : decode cX2_addToSets 32 = .ok (.getfield 43, 3) := by decide +kernel
theorem dX2_addToSets_35 : decode cX2_addToSets 35 = .ok (.iload 4, 2) := by decide +kernel
theorem dX2_addToSets_37 : decode cX2_addToSets 37 = .ok (.iaload, 1) := by decide +kernel
theorem dX2_addToSets_38 : decode cX2_addToSets 38 = .ok (.if_icmp .gt 32, 3) := by decide +kernel
theorem dX2_addToSets_41 : decode cX2_addToSets 41 = .ok (.aload_n 0, 1) := by decide +kernel
theorem dX2_addToSets_42 : decode cX2_addToSets 42 = .ok (.getfield 43, 3) := by decide +kernel
theorem dX2_addToSets_45 : decode cX2_addToSets 45 = .ok (.iload 4, 2) := by decide +kernel
theorem dX2_addToSets_47 : decode cX2_addToSets 47 = .ok (.iload 5, 2) := by decide +kernel
theorem dX2_addToSets_49 : decode cX2_addToSets 49 = .ok (.iastore, 1) := by decide +kernel
theorem dX2_addToSets_50 : decode cX2_addToSets 50 = .ok (.aload_n 0, 1) := by decide +kernel
theorem dX2_addToSets_51 : decode cX2_addToSets 51 = .ok (.getfield 39, 3) := by decide +kernel
theorem dX2_addToSets_54 : decode cX2_addToSets 54 = .ok (.iload 4, 2) := by decide +kernel
theorem dX2_addToSets_56 : decode cX2_addToSets 56 = .ok (.aload_n 0, 1) := by decide +kernel
theorem dX2_addToSets_57 : decode cX2_addToSets 57 = .ok (.getfield 39, 3) := by decide +kernel
theorem dX2_addToSets_60 : decode cX2_addToSets 60 = .ok (.iload 4, 2) := by decide +kernel
theorem dX2_addToSets_62 : decode cX2_addToSets 62 = .ok (.iload_n 3, 1) := by decide +kernel
theorem dX2_addToSets_63 : decode cX2_addToSets 63 = .ok (.isub, 1) := by decide +kernel
theorem dX2_addToSets_64 : decode cX2_addToSets 64 = .ok (.laload, 1) := by decide +kernel
theorem dX2_addToSets_65 : decode cX2_addToSets 65 = .ok (.lconst 1, 1) := by decide +kernel
theorem dX2_addToSets_66 : decode cX2_addToSets 66 = .ok (.iload_n 1, 1) := by decide +kernel
theorem dX2_addToSets_67 : decode cX2_addToSets 67 = .ok (.lshl, 1) := by decide +kernel
theorem dX2_addToSets_68 : decode cX2_addToSets 68 = .ok (.lor, 1) := by decide +kernel
theorem dX2_addToSets_69 : decode cX2_addToSets 69 = .ok (.lastore, 1) := by decide +kernel
theorem dX2_addToSets_70 : decode cX2_addToSets 70 = .ok (.iinc 4 (-1), 3) := by decide +kernel
theorem dX2_addToSets_73 : decode cX2_addToSets 73 = .ok (.goto (-63), 3) := by decide +kernel
theorem dX2_addToSets_76 : decode cX2_addToSets 76 = .ok (.return_, 1) := by decide +kernel
set_option maxRecDepth 20000 in
theorem ggX2_memberOf_X2_isIn : GoodIn wsX2_memberOf wsX2_isIn := goodIn_r _ [5] (by decide +kernel) (by decide +kernel)
set_option maxRecDepth 20000 in
theorem gX2_memberOf_X2_isIn : GoodIn wsX2_memberOf (va_wsS RX2 314 yX2_isIn wsX2_isIn) := goodIn_app (goodIn_of _ (by decide +kernel)) ggX2_memberOf_X2_isIn
theorem dX2_memberOf_0 : decode cX2_memberOf 0 = .ok (.iconst 0, 1) := by decide +kernel
theorem dX2_memberOf_1 : decode cX2_memberOf 1 = .ok (.istore 4, 2) := by decide +kernel
theorem dX2_memberOf_3 : decode cX2_memberOf 3 = .ok (.iconst 0, 1) := by decide +kernel
theorem dX2_memberOf_4 : decode cX2_memberOf 4 = .ok (.istore 5, 2) := by decide +kernel
theorem dX2_memberOf_6 : decode cX2_memberOf 6 = .ok (.iload 5, 2) := by decide +kernel
theorem dX2_memberOf_8 : decode cX2_memberOf 8 = .ok (.aload_n 0, 1) := by decide +kernel
theorem dX2_memberOf_9 : decode cX2_memberOf 9 = .ok (.getfield 66, 3) := by decide +kernel
theorem dX2_memberOf_12 : decode cX2_memberOf 12 = .ok (.if_icmp .ge 30, 3) := by decide +kernel
theorem dX2_memberOf_15 : decode cX2_memberOf 15 = .ok (.lload_n 1, 1) := by decide +kernel
theorem dX2_memberOf_16 : decode cX2_memberOf 16 = .ok (.iload 5, 2) := by decide +kernel
theorem dX2_memberOf_18 : decode cX2_memberOf 18 = .ok (.invokestatic 314, 3) := by decide +kernel
theorem dX2_memberOf_21 : decode cX2_memberOf 21 = .ok (.ifCond .eq 15, 3) := by decide +kernel
theorem dX2_memberOf_24 : decode cX2_memberOf 24 = .ok (.iload 4, 2) := by decide +kernel
theorem dX2_memberOf_26 : decode cX2_memberOf 26 = .ok (.iload_n 3, 1) := by decide +kernel
theorem dX2_memberOf_27 : decode cX2_memberOf 27 = .ok (.if_icmp .ne 6, 3) := by decide +kernel
theorem dX2_memberOf_30 : decode cX2_memberOf 30 = .ok (.iload 5, 2) := by decide +kernel
theorem dX2_memberOf_32 : decode cX2_memberOf 32 = .ok (.ireturn, 1) := by decide +kernel
theorem dX2_memberOf_33 : decode cX2_memberOf 33 = .ok (.iinc 4 1, 3) := by decide +kernel
theorem dX2_memberOf_36 : decode cX2_memberOf 36 = .ok (.iinc 5 1, 3) := by decide +kernel
theorem dX2_memberOf_39 : decode cX2_memberOf 39 = .ok (.goto (-33), 3) := by decide +kernel
theorem dX2_memberOf_42 : decode cX2_memberOf 42 = .ok (.iconst (-1), 1) := by decide +kernel
theorem dX2_memberOf_43 : decode cX2_memberOf 43 = .ok (.ireturn, 1) := by decide +kernel
theorem dX2_isIn_0 : decode cX2_isIn 0 = .ok (.lload_n 0, 1) := by decide +kernel
theorem dX2_isIn_1 : decode cX2_isIn 1 = .ok (.iload_n 2, 1) := by decide +kernel
theorem dX2_isIn_2 : decode cX2_isIn 2 = .ok (.lushr, 1) := by decide +kernel
theorem dX2_isIn_3 : decode cX2_isIn 3 = .ok (.lconst 1, 1) := by decide +kernel
theorem dX2_isIn_4 : decode cX2_isIn 4 = .ok (.land, 1) := by decide +kernel
theorem dX2_isIn_5 : decode cX2_isIn 5 = .ok (.lconst 0, 1) := by decide +kernel
theorem dX2_isIn_6 : decode cX2_isIn 6 = .ok (.lcmp, 1) := by decide +kernel
theorem dX2_isIn_7 : decode cX2_isIn 7 = .ok (.ifCond .eq 7, 3) := by decide +kernel
theorem dX2_isIn_10 : decode cX2_isIn 10 = .ok (.iconst 1, 1) := by decide +kernel
theorem dX2_isIn_11 : decode cX2_isIn 11 = .ok (.goto 4, 3) := by decide +kernel
theorem dX2_isIn_14 : decode cX2_isIn 14 = .ok (.iconst 0, 1) := by decide +kernel
theorem dX2_isIn_15 : decode cX2_isIn 15 = .ok (.ireturn, 1) := by decide +kernel
set_option maxRecDepth 20000 in
theorem ggX2_putStavesIn_X2_isIn : GoodIn wsX2_putStavesIn wsX2_isIn := goodIn_r _ [6] (by decide +kernel) (by decide +kernel)
set_option maxRecDepth 20000 in
theorem gX2_putStavesIn_X2_isIn : GoodIn wsX2_putStavesIn (va_wsS RX2 314 yX2_isIn wsX2_isIn) := goodIn_app (goodIn_of _ (by decide +kernel)) ggX2_putStavesIn_X2_isIn
set_option maxRecDepth 20000 in
theorem ggX2_putStavesIn_X2_flawsOf : GoodIn wsX2_putStavesIn wsX2_flawsOf := goodIn_r _ [10, 11, 12, 13, 14, 15, 16, 17, 18, 19, 20, 21, 22, 23, 24, 25, 26, 27, 28] (by decide +kernel) (by decide +kernel)
set_option maxRecDepth 20000 in
theorem gX2_putStavesIn_X2_flawsOf : GoodIn wsX2_putStavesIn (wsV RX2 181 RX2 yX2_flawsOf wsX2_flawsOf) := goodIn_app (goodIn_of _ (by decide +kernel)) ggX2_putStavesIn_X2_flawsOf
theorem dX2_putStavesIn_0 : decode cX2_putStavesIn 0 = .ok (.iconst 0, 1) := by decide +kernel
theorem dX2_putStavesIn_1 : decode cX2_putStavesIn 1 = .ok (.istore 4, 2) := by decide +kernel
theorem dX2_putStavesIn_3 : decode cX2_putStavesIn 3 = .ok (.iconst 0, 1) := by decide +kernel
theorem dX2_putStavesIn_4 : decode cX2_putStavesIn 4 = .ok (.istore 5, 2) := by decide +kernel
theorem dX2_putStavesIn_6 : decode cX2_putStavesIn 6 = .ok (.iload 5, 2) := by decide +kernel
theorem dX2_putStavesIn_8 : decode cX2_putStavesIn 8 = .ok (.aload_n 0, 1) := by decide +kernel
theorem dX2_putStavesIn_9 : decode cX2_putStavesIn 9 = .ok (.getfield 66, 3) := by decide +kernel
