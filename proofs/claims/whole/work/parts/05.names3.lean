theorem dX2_putStavesIn_12 : decode cX2_putStavesIn 12 = .ok (.if_icmp .ge 37, 3) := by decide +kernel
theorem dX2_putStavesIn_15 : decode cX2_putStavesIn 15 = .ok (.lload_n 1, 1) := by decide +kernel
theorem dX2_putStavesIn_16 : decode cX2_putStavesIn 16 = .ok (.iload 5, 2) := by decide +kernel
theorem dX2_putStavesIn_18 : decode cX2_putStavesIn 18 = .ok (.invokestatic 314, 3) := by decide +kernel
theorem dX2_putStavesIn_21 : decode cX2_putStavesIn 21 = .ok (.ifCond .eq 22, 3) := by decide +kernel
theorem dX2_putStavesIn_24 : decode cX2_putStavesIn 24 = .ok (.aload_n 0, 1) := by decide +kernel
theorem dX2_putStavesIn_25 : decode cX2_putStavesIn 25 = .ok (.getfield 16, 3) := by decide +kernel
theorem dX2_putStavesIn_28 : decode cX2_putStavesIn 28 = .ok (.iload 5, 2) := by decide +kernel
theorem dX2_putStavesIn_30 : decode cX2_putStavesIn 30 = .ok (.iload_n 3, 1) := by decide +kernel
theorem dX2_putStavesIn_31 : decode cX2_putStavesIn 31 = .ok (.iastore, 1) := by decide +kernel
theorem dX2_putStavesIn_32 : decode cX2_putStavesIn 32 = .ok (.iload 4, 2) := by decide +kernel
theorem dX2_putStavesIn_34 : decode cX2_putStavesIn 34 = .ok (.aload_n 0, 1) := by decide +kernel
theorem dX2_putStavesIn_35 : decode cX2_putStavesIn 35 = .ok (.iload 5, 2) := by decide +kernel
theorem dX2_putStavesIn_37 : decode cX2_putStavesIn 37 = .ok (.invokevirtual 181, 3) := by decide +kernel
theorem dX2_putStavesIn_40 : decode cX2_putStavesIn 40 = .ok (.iadd, 1) := by decide +kernel
theorem dX2_putStavesIn_41 : decode cX2_putStavesIn 41 = .ok (.istore 4, 2) := by decide +kernel
theorem dX2_putStavesIn_43 : decode cX2_putStavesIn 43 = .ok (.iinc 5 1, 3) := by decide +kernel
theorem dX2_putStavesIn_46 : decode cX2_putStavesIn 46 = .ok (.goto (-40), 3) := by decide +kernel
theorem dX2_putStavesIn_49 : decode cX2_putStavesIn 49 = .ok (.iload 4, 2) := by decide +kernel
theorem dX2_putStavesIn_51 : decode cX2_putStavesIn 51 = .ok (.ireturn, 1) := by decide +kernel
theorem dX2_takeStavesOutOf_0 : decode cX2_takeStavesOutOf 0 = .ok (.iconst 1, 1) := by decide +kernel
theorem dX2_takeStavesOutOf_1 : decode cX2_takeStavesOutOf 1 = .ok (.istore_n 2, 1) := by decide +kernel
theorem dX2_takeStavesOutOf_2 : decode cX2_takeStavesOutOf 2 = .ok (.iconst 0, 1) := by decide +kernel
theorem dX2_takeStavesOutOf_3 : decode cX2_takeStavesOutOf 3 = .ok (.istore_n 3, 1) := by decide +kernel
theorem dX2_takeStavesOutOf_4 : decode cX2_takeStavesOutOf 4 = .ok (.iload_n 3, 1) := by decide +kernel
theorem dX2_takeStavesOutOf_5 : decode cX2_takeStavesOutOf 5 = .ok (.aload_n 0, 1) := by decide +kernel
theorem dX2_takeStavesOutOf_6 : decode cX2_takeStavesOutOf 6 = .ok (.getfield 66, 3) := by decide +kernel
theorem dX2_takeStavesOutOf_9 : decode cX2_takeStavesOutOf 9 = .ok (.if_icmp .ge 56, 3) := by decide +kernel
theorem dX2_takeStavesOutOf_12 : decode cX2_takeStavesOutOf 12 = .ok (.aload_n 0, 1) := by decide +kernel
theorem dX2_takeStavesOutOf_13 : decode cX2_takeStavesOutOf 13 = .ok (.getfield 16, 3) := by decide +kernel
theorem dX2_takeStavesOutOf_16 : decode cX2_takeStavesOutOf 16 = .ok (.iload_n 3, 1) := by decide +kernel
theorem dX2_takeStavesOutOf_17 : decode cX2_takeStavesOutOf 17 = .ok (.iaload, 1) := by decide +kernel
theorem dX2_takeStavesOutOf_18 : decode cX2_takeStavesOutOf 18 = .ok (.iload_n 1, 1) := by decide +kernel
theorem dX2_takeStavesOutOf_19 : decode cX2_takeStavesOutOf 19 = .ok (.if_icmp .ne 40, 3) := by decide +kernel
theorem dX2_takeStavesOutOf_22 : decode cX2_takeStavesOutOf 22 = .ok (.aload_n 0, 1) := by decide +kernel
theorem dX2_takeStavesOutOf_23 : decode cX2_takeStavesOutOf 23 = .ok (.getfield 13, 3) := by decide +kernel
theorem dX2_takeStavesOutOf_26 : decode cX2_takeStavesOutOf 26 = .ok (.iload_n 3, 1) := by decide +kernel
theorem dX2_takeStavesOutOf_27 : decode cX2_takeStavesOutOf 27 = .ok (.iconst 0, 1) := by decide +kernel
theorem dX2_takeStavesOutOf_28 : decode cX2_takeStavesOutOf 28 = .ok (.aload_n 0, 1) := by decide +kernel
theorem dX2_takeStavesOutOf_29 : decode cX2_takeStavesOutOf 29 = .ok (.getfield 13, 3) := by decide +kernel
theorem dX2_takeStavesOutOf_32 : decode cX2_takeStavesOutOf 32 = .ok (.iload_n 3, 1) := by decide +kernel
theorem dX2_takeStavesOutOf_33 : decode cX2_takeStavesOutOf 33 = .ok (.iaload, 1) := by decide +kernel
theorem dX2_takeStavesOutOf_34 : decode cX2_takeStavesOutOf 34 = .ok (.bipush 30, 2) := by decide +kernel
theorem dX2_takeStavesOutOf_36 : decode cX2_takeStavesOutOf 36 = .ok (.isub, 1) := by decide +kernel
theorem dX2_takeStavesOutOf_37 : decode cX2_takeStavesOutOf 37 = .ok (.invokestatic 318, 3) := by decide +kernel
theorem dX2_takeStavesOutOf_40 : decode cX2_takeStavesOutOf 40 = .ok (.iastore, 1) := by decide +kernel
theorem dX2_takeStavesOutOf_41 : decode cX2_takeStavesOutOf 41 = .ok (.aload_n 0, 1) := by decide +kernel
theorem dX2_takeStavesOutOf_42 : decode cX2_takeStavesOutOf 42 = .ok (.getfield 16, 3) := by decide +kernel
theorem dX2_takeStavesOutOf_45 : decode cX2_takeStavesOutOf 45 = .ok (.iload_n 3, 1) := by decide +kernel
theorem dX2_takeStavesOutOf_46 : decode cX2_takeStavesOutOf 46 = .ok (.iload_n 2, 1) := by decide +kernel
theorem dX2_takeStavesOutOf_47 : decode cX2_takeStavesOutOf 47 = .ok (.ifCond .eq 8, 3) := by decide +kernel
theorem dX2_takeStavesOutOf_50 : decode cX2_takeStavesOutOf 50 = .ok (.bipush (-2), 2) := by decide +kernel
theorem dX2_takeStavesOutOf_52 : decode cX2_takeStavesOutOf 52 = .ok (.goto 4, 3) := by decide +kernel
theorem dX2_takeStavesOutOf_55 : decode cX2_takeStavesOutOf 55 = .ok (.iconst (-1), 1) := by decide +kernel
theorem dX2_takeStavesOutOf_56 : decode cX2_takeStavesOutOf 56 = .ok (.iastore, 1) := by decide +kernel
theorem dX2_takeStavesOutOf_57 : decode cX2_takeStavesOutOf 57 = .ok (.iconst 0, 1) := by decide +kernel
theorem dX2_takeStavesOutOf_58 : decode cX2_takeStavesOutOf 58 = .ok (.istore_n 2, 1) := by decide +kernel
theorem dX2_takeStavesOutOf_59 : decode cX2_takeStavesOutOf 59 = .ok (.iinc 3 1, 3) := by decide +kernel
theorem dX2_takeStavesOutOf_62 : decode cX2_takeStavesOutOf 62 = .ok (.goto (-58), 3) := by decide +kernel
theorem dX2_takeStavesOutOf_65 : decode cX2_takeStavesOutOf 65 = .ok (.return_, 1) := by decide +kernel
set_option maxRecDepth 20000 in
theorem ggX2_tellOfCask_X2_stavesAt : GoodIn wsX2_tellOfCask wsX2_stavesAt := goodIn_r _ [14, 15, 16, 40, 41, 42, 43, 44, 45, 46, 47, 48, 49, 50, 51, 52, 53, 54, 55, 56] (by decide +kernel) (by decide +kernel)
set_option maxRecDepth 20000 in
theorem gX2_tellOfCask_X2_stavesAt : GoodIn wsX2_tellOfCask (wsV RX2 238 RX2 yX2_stavesAt wsX2_stavesAt) := goodIn_app (goodIn_of _ (by decide +kernel)) ggX2_tellOfCask_X2_stavesAt
set_option maxRecDepth 20000 in
theorem ggX2_tellOfCask_X1_allTensions : GoodIn wsX2_tellOfCask wsX1_allTensions := goodIn_r _ [21, 22, 57, 58, 59, 60, 61, 62, 63, 64, 65, 66, 67] (by decide +kernel) (by decide +kernel)
set_option maxRecDepth 20000 in
theorem gX2_tellOfCask_X1_allTensions : GoodIn wsX2_tellOfCask (wsV RX2 162 RX1 yX1_allTensions wsX1_allTensions) := goodIn_app (goodIn_of _ (by decide +kernel)) ggX2_tellOfCask_X1_allTensions
set_option maxRecDepth 20000 in
theorem ggX2_tellOfCask_X1_held : GoodIn wsX2_tellOfCask wsX1_held := goodIn_r _ [26, 27, 57, 58, 59, 60, 61, 62, 63, 64, 65, 66, 67] (by decide +kernel) (by decide +kernel)
set_option maxRecDepth 20000 in
theorem gX2_tellOfCask_X1_held : GoodIn wsX2_tellOfCask (wsV RX2 172 RX1 yX1_held wsX1_held) := goodIn_app (goodIn_of _ (by decide +kernel)) ggX2_tellOfCask_X1_held
set_option maxRecDepth 20000 in
theorem ggX2_tellOfCask_X1_leak : GoodIn wsX2_tellOfCask wsX1_leak := goodIn_r _ [31, 32, 33, 34, 35, 36, 37, 38, 39, 18, 19, 20, 21, 22, 57, 58, 59, 60, 61, 62, 63, 64, 65, 66, 67] (by decide +kernel) (by decide +kernel)
set_option maxRecDepth 20000 in
theorem gX2_tellOfCask_X1_leak : GoodIn wsX2_tellOfCask (wsV RX2 266 RX1 yX1_leak wsX1_leak) := goodIn_app (goodIn_of _ (by decide +kernel)) ggX2_tellOfCask_X1_leak
theorem dX2_tellOfCask_0 : decode cX2_tellOfCask 0 = .ok (.aload_n 0, 1) := by decide +kernel
theorem dX2_tellOfCask_1 : decode cX2_tellOfCask 1 = .ok (.getfield 30, 3) := by decide +kernel
theorem dX2_tellOfCask_4 : decode cX2_tellOfCask 4 = .ok (.iload_n 1, 1) := by decide +kernel
theorem dX2_tellOfCask_5 : decode cX2_tellOfCask 5 = .ok (.aaload, 1) := by decide +kernel
theorem dX2_tellOfCask_6 : decode cX2_tellOfCask 6 = .ok (.astore_n 3, 1) := by decide +kernel
theorem dX2_tellOfCask_7 : decode cX2_tellOfCask 7 = .ok (.iload_n 2, 1) := by decide +kernel
theorem dX2_tellOfCask_8 : decode cX2_tellOfCask 8 = .ok (.bipush 8, 2) := by decide +kernel
theorem dX2_tellOfCask_10 : decode cX2_tellOfCask 10 = .ok (.isub, 1) := by decide +kernel
theorem dX2_tellOfCask_11 : decode cX2_tellOfCask 11 = .ok (.istore 4, 2) := by decide +kernel
theorem dX2_tellOfCask_13 : decode cX2_tellOfCask 13 = .ok (.iload 4, 2) := by decide +kernel
theorem dX2_tellOfCask_15 : decode cX2_tellOfCask 15 = .ok (.ifCond .lt 17, 3) := by decide +kernel
theorem dX2_tellOfCask_18 : decode cX2_tellOfCask 18 = .ok (.iload 4, 2) := by decide +kernel
theorem dX2_tellOfCask_20 : decode cX2_tellOfCask 20 = .ok (.iconst 5, 1) := by decide +kernel
theorem dX2_tellOfCask_21 : decode cX2_tellOfCask 21 = .ok (.if_icmp .ge 11, 3) := by decide +kernel
theorem dX2_tellOfCask_24 : decode cX2_tellOfCask 24 = .ok (.aload_n 3, 1) := by decide +kernel
theorem dX2_tellOfCask_25 : decode cX2_tellOfCask 25 = .ok (.getfield 206, 3) := by decide +kernel
theorem dX2_tellOfCask_28 : decode cX2_tellOfCask 28 = .ok (.iload 4, 2) := by decide +kernel
theorem dX2_tellOfCask_30 : decode cX2_tellOfCask 30 = .ok (.iaload, 1) := by decide +kernel
theorem dX2_tellOfCask_31 : decode cX2_tellOfCask 31 = .ok (.ireturn, 1) := by decide +kernel
theorem dX2_tellOfCask_32 : decode cX2_tellOfCask 32 = .ok (.iload_n 2, 1) := by decide +kernel
theorem dX2_tellOfCask_33 : decode cX2_tellOfCask 33 = .ok (.tableswitch 126 0 14 #[75, 80, 86, 91, 96, 101, 106, 111, 126, 126, 126, 126, 126, 116, 121], 75) := by decide +kernel
theorem dX2_tellOfCask_108 : decode cX2_tellOfCask 108 = .ok (.aload_n 3, 1) := by decide +kernel
theorem dX2_tellOfCask_109 : decode cX2_tellOfCask 109 = .ok (.getfield 121, 3) := by decide +kernel
theorem dX2_tellOfCask_112 : decode cX2_tellOfCask 112 = .ok (.ireturn, 1) := by decide +kernel
theorem dX2_tellOfCask_113 : decode cX2_tellOfCask 113 = .ok (.aload_n 0, 1) := by decide +kernel
theorem dX2_tellOfCask_114 : decode cX2_tellOfCask 114 = .ok (.iload_n 1, 1) := by decide +kernel
theorem dX2_tellOfCask_115 : decode cX2_tellOfCask 115 = .ok (.invokevirtual 238, 3) := by decide +kernel
theorem dX2_tellOfCask_118 : decode cX2_tellOfCask 118 = .ok (.ireturn, 1) := by decide +kernel
theorem dX2_tellOfCask_119 : decode cX2_tellOfCask 119 = .ok (.aload_n 3, 1) := by decide +kernel
theorem dX2_tellOfCask_120 : decode cX2_tellOfCask 120 = .ok (.getfield 138, 3) := by decide +kernel
theorem dX2_tellOfCask_123 : decode cX2_tellOfCask 123 = .ok (.ireturn, 1) := by decide +kernel
theorem dX2_tellOfCask_124 : decode cX2_tellOfCask 124 = .ok (.aload_n 3, 1) := by decide +kernel
theorem dX2_tellOfCask_125 : decode cX2_tellOfCask 125 = .ok (.invokevirtual 162, 3) := by decide +kernel
theorem dX2_tellOfCask_128 : decode cX2_tellOfCask 128 = .ok (.ireturn, 1) := by decide +kernel
theorem dX2_tellOfCask_129 : decode cX2_tellOfCask 129 = .ok (.aload_n 3, 1) := by decide +kernel
theorem dX2_tellOfCask_130 : decode cX2_tellOfCask 130 = .ok (.getfield 321, 3) := by decide +kernel
theorem dX2_tellOfCask_133 : decode cX2_tellOfCask 133 = .ok (.ireturn, 1) := by decide +kernel
theorem dX2_tellOfCask_134 : decode cX2_tellOfCask 134 = .ok (.aload_n 3, 1) := by decide +kernel
theorem dX2_tellOfCask_135 : decode cX2_tellOfCask 135 = .ok (.getfield 324, 3) := by decide +kernel
theorem dX2_tellOfCask_138 : decode cX2_tellOfCask 138 = .ok (.ireturn, 1) := by decide +kernel
theorem dX2_tellOfCask_139 : decode cX2_tellOfCask 139 = .ok (.aload_n 3, 1) := by decide +kernel
theorem dX2_tellOfCask_140 : decode cX2_tellOfCask 140 = .ok (.getfield 327, 3) := by decide +kernel
theorem dX2_tellOfCask_143 : decode cX2_tellOfCask 143 = .ok (.ireturn, 1) := by decide +kernel
theorem dX2_tellOfCask_144 : decode cX2_tellOfCask 144 = .ok (.aload_n 3, 1) := by decide +kernel
theorem dX2_tellOfCask_145 : decode cX2_tellOfCask 145 = .ok (.invokevirtual 172, 3) := by decide +kernel
theorem dX2_tellOfCask_148 : decode cX2_tellOfCask 148 = .ok (.ireturn, 1) := by decide +kernel
theorem dX2_tellOfCask_149 : decode cX2_tellOfCask 149 = .ok (.aload_n 3, 1) := by decide +kernel
theorem dX2_tellOfCask_150 : decode cX2_tellOfCask 150 = .ok (.getfield 263, 3) := by decide +kernel
theorem dX2_tellOfCask_153 : decode cX2_tellOfCask 153 = .ok (.ireturn, 1) := by decide +kernel
theorem dX2_tellOfCask_154 : decode cX2_tellOfCask 154 = .ok (.aload_n 3, 1) := by decide +kernel
theorem dX2_tellOfCask_155 : decode cX2_tellOfCask 155 = .ok (.invokevirtual 266, 3) := by decide +kernel
theorem dX2_tellOfCask_158 : decode cX2_tellOfCask 158 = .ok (.ireturn, 1) := by decide +kernel
theorem dX2_tellOfCask_159 : decode cX2_tellOfCask 159 = .ok (.aload_n 3, 1) := by decide +kernel
theorem dX2_tellOfCask_160 : decode cX2_tellOfCask 160 = .ok (.getfield 127, 3) := by decide +kernel
theorem dX2_tellOfCask_163 : decode cX2_tellOfCask 163 = .ok (.ifCond .eq 7, 3) := by decide +kernel
theorem dX2_tellOfCask_166 : decode cX2_tellOfCask 166 = .ok (.iconst 1, 1) := by decide +kernel
theorem dX2_tellOfCask_167 : decode cX2_tellOfCask 167 = .ok (.goto 4, 3) := by decide +kernel
theorem dX2_tellOfCask_170 : decode cX2_tellOfCask 170 = .ok (.iconst 0, 1) := by decide +kernel
theorem dX2_tellOfCask_171 : decode cX2_tellOfCask 171 = .ok (.ireturn, 1) := by decide +kernel
theorem dX2_soundCasks_0 : decode cX2_soundCasks 0 = .ok (.iconst 0, 1) := by decide +kernel
theorem dX2_soundCasks_1 : decode cX2_soundCasks 1 = .ok (.istore_n 1, 1) := by decide +kernel
theorem dX2_soundCasks_2 : decode cX2_soundCasks 2 = .ok (.iconst 0, 1) := by decide +kernel
theorem dX2_soundCasks_3 : decode cX2_soundCasks 3 = .ok (.istore_n 2, 1) := by decide +kernel
theorem dX2_soundCasks_4 : decode cX2_soundCasks 4 = .ok (.iload_n 2, 1) := by decide +kernel
theorem dX2_soundCasks_5 : decode cX2_soundCasks 5 = .ok (.aload_n 0, 1) := by decide +kernel
theorem dX2_soundCasks_6 : decode cX2_soundCasks 6 = .ok (.getfield 114, 3) := by decide +kernel
theorem dX2_soundCasks_9 : decode cX2_soundCasks 9 = .ok (.if_icmp .ge 24, 3) := by decide +kernel
theorem dX2_soundCasks_12 : decode cX2_soundCasks 12 = .ok (.aload_n 0, 1) := by decide +kernel
theorem dX2_soundCasks_13 : decode cX2_soundCasks 13 = .ok (.getfield 30, 3) := by decide +kernel
theorem dX2_soundCasks_16 : decode cX2_soundCasks 16 = .ok (.iload_n 2, 1) := by decide +kernel
theorem dX2_soundCasks_17 : decode cX2_soundCasks 17 = .ok (.aaload, 1) := by decide +kernel
theorem dX2_soundCasks_18 : decode cX2_soundCasks 18 = .ok (.getfield 127, 3) := by decide +kernel
theorem dX2_soundCasks_21 : decode cX2_soundCasks 21 = .ok (.ifCond .eq 6, 3) := by decide +kernel
theorem dX2_soundCasks_24 : decode cX2_soundCasks 24 = .ok (.iinc 1 1, 3) := by decide +kernel
theorem dX2_soundCasks_27 : decode cX2_soundCasks 27 = .ok (.iinc 2 1, 3) := by decide +kernel
theorem dX2_soundCasks_30 : decode cX2_soundCasks 30 = .ok (.goto (-26), 3) := by decide +kernel
theorem dX2_soundCasks_33 : decode cX2_soundCasks 33 = .ok (.iload_n 1, 1) := by decide +kernel
theorem dX2_soundCasks_34 : decode cX2_soundCasks 34 = .ok (.ireturn, 1) := by decide +kernel
set_option maxRecDepth 20000 in
theorem ggX2_heldByAll_X1_held : GoodIn wsX2_heldByAll wsX1_held := goodIn_r _ [7, 8, 26, 27, 28, 29, 30, 31, 32, 33, 34, 35, 36] (by decide +kernel) (by decide +kernel)
set_option maxRecDepth 20000 in
theorem gX2_heldByAll_X1_held : GoodIn wsX2_heldByAll (wsV RX2 172 RX1 yX1_held wsX1_held) := goodIn_app (goodIn_of _ (by decide +kernel)) ggX2_heldByAll_X1_held
theorem dX2_heldByAll_0 : decode cX2_heldByAll 0 = .ok (.iconst 0, 1) := by decide +kernel
theorem dX2_heldByAll_1 : decode cX2_heldByAll 1 = .ok (.istore_n 1, 1) := by decide +kernel
theorem dX2_heldByAll_2 : decode cX2_heldByAll 2 = .ok (.iconst 0, 1) := by decide +kernel
theorem dX2_heldByAll_3 : decode cX2_heldByAll 3 = .ok (.istore_n 2, 1) := by decide +kernel
theorem dX2_heldByAll_4 : decode cX2_heldByAll 4 = .ok (.iload_n 2, 1) := by decide +kernel
theorem dX2_heldByAll_5 : decode cX2_heldByAll 5 = .ok (.aload_n 0, 1) := by decide +kernel
theorem dX2_heldByAll_6 : decode cX2_heldByAll 6 = .ok (.getfield 114, 3) := by decide +kernel
theorem dX2_heldByAll_9 : decode cX2_heldByAll 9 = .ok (.if_icmp .ge 21, 3) := by decide +kernel
theorem dX2_heldByAll_12 : decode cX2_heldByAll 12 = .ok (.iload_n 1, 1) := by decide +kernel
theorem dX2_heldByAll_13 : decode cX2_heldByAll 13 = .ok (.aload_n 0, 1) := by decide +kernel
theorem dX2_heldByAll_14 : decode cX2_heldByAll 14 = .ok (.getfield 30, 3) := by decide +kernel
theorem dX2_heldByAll_17 : decode cX2_heldByAll 17 = .ok (.iload_n 2, 1) := by decide +kernel
theorem dX2_heldByAll_18 : decode cX2_heldByAll 18 = .ok (.aaload, 1) := by decide +kernel
theorem dX2_heldByAll_19 : decode cX2_heldByAll 19 = .ok (.invokevirtual 172, 3) := by decide +kernel
theorem dX2_heldByAll_22 : decode cX2_heldByAll 22 = .ok (.iadd, 1) := by decide +kernel
theorem dX2_heldByAll_23 : decode cX2_heldByAll 23 = .ok (.istore_n 1, 1) := by decide +kernel
theorem dX2_heldByAll_24 : decode cX2_heldByAll 24 = .ok (.iinc 2 1, 3) := by decide +kernel
theorem dX2_heldByAll_27 : decode cX2_heldByAll 27 = .ok (.goto (-23), 3) := by decide +kernel
theorem dX2_heldByAll_30 : decode cX2_heldByAll 30 = .ok (.iload_n 1, 1) := by decide +kernel
theorem dX2_heldByAll_31 : decode cX2_heldByAll 31 = .ok (.ireturn, 1) := by decide +kernel
theorem dX2_vinegarOfAll_0 : decode cX2_vinegarOfAll 0 = .ok (.iconst 0, 1) := by decide +kernel
theorem dX2_vinegarOfAll_1 : decode cX2_vinegarOfAll 1 = .ok (.istore_n 1, 1) := by decide +kernel
theorem dX2_vinegarOfAll_2 : decode cX2_vinegarOfAll 2 = .ok (.iconst 0, 1) := by decide +kernel
theorem dX2_vinegarOfAll_3 : decode cX2_vinegarOfAll 3 = .ok (.istore_n 2, 1) := by decide +kernel
theorem dX2_vinegarOfAll_4 : decode cX2_vinegarOfAll 4 = .ok (.iload_n 2, 1) := by decide +kernel
theorem dX2_vinegarOfAll_5 : decode cX2_vinegarOfAll 5 = .ok (.aload_n 0, 1) := by decide +kernel
theorem dX2_vinegarOfAll_6 : decode cX2_vinegarOfAll 6 = .ok (.getfield 114, 3) := by decide +kernel
theorem dX2_vinegarOfAll_9 : decode cX2_vinegarOfAll 9 = .ok (.if_icmp .ge 23, 3) := by decide +kernel
theorem dX2_vinegarOfAll_12 : decode cX2_vinegarOfAll 12 = .ok (.iload_n 1, 1) := by decide +kernel
theorem dX2_vinegarOfAll_13 : decode cX2_vinegarOfAll 13 = .ok (.aload_n 0, 1) := by decide +kernel
theorem dX2_vinegarOfAll_14 : decode cX2_vinegarOfAll 14 = .ok (.getfield 30, 3) := by decide +kernel
theorem dX2_vinegarOfAll_17 : decode cX2_vinegarOfAll 17 = .ok (.iload_n 2, 1) := by decide +kernel
theorem dX2_vinegarOfAll_18 : decode cX2_vinegarOfAll 18 = .ok (.aaload, 1) := by decide +kernel
theorem dX2_vinegarOfAll_19 : decode cX2_vinegarOfAll 19 = .ok (.getfield 206, 3) := by decide +kernel
theorem dX2_vinegarOfAll_22 : decode cX2_vinegarOfAll 22 = .ok (.iconst 4, 1) := by decide +kernel
theorem dX2_vinegarOfAll_23 : decode cX2_vinegarOfAll 23 = .ok (.iaload, 1) := by decide +kernel
theorem dX2_vinegarOfAll_24 : decode cX2_vinegarOfAll 24 = .ok (.iadd, 1) := by decide +kernel
theorem dX2_vinegarOfAll_25 : decode cX2_vinegarOfAll 25 = .ok (.istore_n 1, 1) := by decide +kernel
theorem dX2_vinegarOfAll_26 : decode cX2_vinegarOfAll 26 = .ok (.iinc 2 1, 3) := by decide +kernel
theorem dX2_vinegarOfAll_29 : decode cX2_vinegarOfAll 29 = .ok (.goto (-25), 3) := by decide +kernel
theorem dX2_vinegarOfAll_32 : decode cX2_vinegarOfAll 32 = .ok (.iload_n 1, 1) := by decide +kernel
theorem dX2_vinegarOfAll_33 : decode cX2_vinegarOfAll 33 = .ok (.ireturn, 1) := by decide +kernel
theorem dX2_hoopsLoosenIn_0 : decode cX2_hoopsLoosenIn 0 = .ok (.iload_n 0, 1) := by decide +kernel
theorem dX2_hoopsLoosenIn_1 : decode cX2_hoopsLoosenIn 1 = .ok (.iconst 1, 1) := by decide +kernel
theorem dX2_hoopsLoosenIn_2 : decode cX2_hoopsLoosenIn 2 = .ok (.iadd, 1) := by decide +kernel
theorem dX2_hoopsLoosenIn_3 : decode cX2_hoopsLoosenIn 3 = .ok (.bipush 12, 2) := by decide +kernel
theorem dX2_hoopsLoosenIn_5 : decode cX2_hoopsLoosenIn 5 = .ok (.irem, 1) := by decide +kernel
theorem dX2_hoopsLoosenIn_6 : decode cX2_hoopsLoosenIn 6 = .ok (.ifCond .ne 7, 3) := by decide +kernel
theorem dX2_hoopsLoosenIn_9 : decode cX2_hoopsLoosenIn 9 = .ok (.iconst 1, 1) := by decide +kernel
theorem dX2_hoopsLoosenIn_10 : decode cX2_hoopsLoosenIn 10 = .ok (.goto 4, 3) := by decide +kernel
theorem dX2_hoopsLoosenIn_13 : decode cX2_hoopsLoosenIn 13 = .ok (.iconst 0, 1) := by decide +kernel
theorem dX2_hoopsLoosenIn_14 : decode cX2_hoopsLoosenIn 14 = .ok (.ireturn, 1) := by decide +kernel
set_option maxRecDepth 20000 in
theorem ggX2_liveMonth_X2_hoopsLoosenIn : GoodIn wsX2_liveMonth wsX2_hoopsLoosenIn := goodIn_r _ [15] (by decide +kernel) (by decide +kernel)
set_option maxRecDepth 20000 in
theorem gX2_liveMonth_X2_hoopsLoosenIn : GoodIn wsX2_liveMonth (va_wsS RX2 256 yX2_hoopsLoosenIn wsX2_hoopsLoosenIn) := goodIn_app (goodIn_of _ (by decide +kernel)) ggX2_liveMonth_X2_hoopsLoosenIn
set_option maxRecDepth 20000 in
theorem ggX2_liveMonth_X1_live : GoodIn wsX2_liveMonth wsX1_live := goodIn_r _ [20, 21, 22, 23, 24, 19, 25, 26, 27, 28, 29, 30, 31, 32, 33, 34, 35, 36, 37, 38, 39, 5, 6, 7, 40, 41, 42, 43, 44, 45, 46, 47, 48, 49, 50, 51, 52, 53, 54, 55, 56, 57, 58, 59, 60, 61, 62, 63, 64, 65, 66, 67, 68, 69, 70, 71, 72, 73, 74, 75, 76, 94, 95, 96, 97, 98, 99, 100, 101, 102, 103, 104] (by decide +kernel) (by decide +kernel)
set_option maxRecDepth 20000 in
theorem gX2_liveMonth_X1_live : GoodIn wsX2_liveMonth (wsV RX2 259 RX1 yX1_live wsX1_live) := goodIn_app (goodIn_of _ (by decide +kernel)) ggX2_liveMonth_X1_live
theorem dX2_liveMonth_0 : decode cX2_liveMonth 0 = .ok (.iconst 0, 1) := by decide +kernel
theorem dX2_liveMonth_1 : decode cX2_liveMonth 1 = .ok (.istore_n 1, 1) := by decide +kernel
theorem dX2_liveMonth_2 : decode cX2_liveMonth 2 = .ok (.iload_n 1, 1) := by decide +kernel
theorem dX2_liveMonth_3 : decode cX2_liveMonth 3 = .ok (.aload_n 0, 1) := by decide +kernel
theorem dX2_liveMonth_4 : decode cX2_liveMonth 4 = .ok (.getfield 66, 3) := by decide +kernel
theorem dX2_liveMonth_7 : decode cX2_liveMonth 7 = .ok (.if_icmp .ge 38, 3) := by decide +kernel
theorem dX2_liveMonth_10 : decode cX2_liveMonth 10 = .ok (.aload_n 0, 1) := by decide +kernel
theorem dX2_liveMonth_11 : decode cX2_liveMonth 11 = .ok (.getfield 16, 3) := by decide +kernel
theorem dX2_liveMonth_14 : decode cX2_liveMonth 14 = .ok (.iload_n 1, 1) := by decide +kernel
theorem dX2_liveMonth_15 : decode cX2_liveMonth 15 = .ok (.iaload, 1) := by decide +kernel
theorem dX2_liveMonth_16 : decode cX2_liveMonth 16 = .ok (.iconst (-1), 1) := by decide +kernel
theorem dX2_liveMonth_17 : decode cX2_liveMonth 17 = .ok (.if_icmp .ne 22, 3) := by decide +kernel
theorem dX2_liveMonth_20 : decode cX2_liveMonth 20 = .ok (.aload_n 0, 1) := by decide +kernel
theorem dX2_liveMonth_21 : decode cX2_liveMonth 21 = .ok (.getfield 13, 3) := by decide +kernel
theorem dX2_liveMonth_24 : decode cX2_liveMonth 24 = .ok (.iload_n 1, 1) := by decide +kernel
theorem dX2_liveMonth_25 : decode cX2_liveMonth 25 = .ok (.bipush 100, 2) := by decide +kernel
theorem dX2_liveMonth_27 : decode cX2_liveMonth 27 = .ok (.aload_n 0, 1) := by decide +kernel
theorem dX2_liveMonth_28 : decode cX2_liveMonth 28 = .ok (.getfield 13, 3) := by decide +kernel
theorem dX2_liveMonth_31 : decode cX2_liveMonth 31 = .ok (.iload_n 1, 1) := by decide +kernel
theorem dX2_liveMonth_32 : decode cX2_liveMonth 32 = .ok (.iaload, 1) := by decide +kernel
theorem dX2_liveMonth_33 : decode cX2_liveMonth 33 = .ok (.iconst 4, 1) := by decide +kernel
theorem dX2_liveMonth_34 : decode cX2_liveMonth 34 = .ok (.iadd, 1) := by decide +kernel
theorem dX2_liveMonth_35 : decode cX2_liveMonth 35 = .ok (.invokestatic 156, 3) := by decide +kernel
theorem dX2_liveMonth_38 : decode cX2_liveMonth 38 = .ok (.iastore, 1) := by decide +kernel
theorem dX2_liveMonth_39 : decode cX2_liveMonth 39 = .ok (.iinc 1 1, 3) := by decide +kernel
theorem dX2_liveMonth_42 : decode cX2_liveMonth 42 = .ok (.goto (-40), 3) := by decide +kernel
theorem dX2_liveMonth_45 : decode cX2_liveMonth 45 = .ok (.iconst 0, 1) := by decide +kernel
theorem dX2_liveMonth_46 : decode cX2_liveMonth 46 = .ok (.istore_n 1, 1) := by decide +kernel
theorem dX2_liveMonth_47 : decode cX2_liveMonth 47 = .ok (.iconst 0, 1) := by decide +kernel
theorem dX2_liveMonth_48 : decode cX2_liveMonth 48 = .ok (.istore_n 2, 1) := by decide +kernel
theorem dX2_liveMonth_49 : decode cX2_liveMonth 49 = .ok (.iload_n 2, 1) := by decide +kernel
theorem dX2_liveMonth_50 : decode cX2_liveMonth 50 = .ok (.aload_n 0, 1) := by decide +kernel
theorem dX2_liveMonth_51 : decode cX2_liveMonth 51 = .ok (.getfield 114, 3) := by decide +kernel
theorem dX2_liveMonth_54 : decode cX2_liveMonth 54 = .ok (.if_icmp .ge 32, 3) := by decide +kernel
theorem dX2_liveMonth_57 : decode cX2_liveMonth 57 = .ok (.iload_n 1, 1) := by decide +kernel
theorem dX2_liveMonth_58 : decode cX2_liveMonth 58 = .ok (.aload_n 0, 1) := by decide +kernel
theorem dX2_liveMonth_59 : decode cX2_liveMonth 59 = .ok (.getfield 30, 3) := by decide +kernel
theorem dX2_liveMonth_62 : decode cX2_liveMonth 62 = .ok (.iload_n 2, 1) := by decide +kernel
theorem dX2_liveMonth_63 : decode cX2_liveMonth 63 = .ok (.aaload, 1) := by decide +kernel
theorem dX2_liveMonth_64 : decode cX2_liveMonth 64 = .ok (.aload_n 0, 1) := by decide +kernel
theorem dX2_liveMonth_65 : decode cX2_liveMonth 65 = .ok (.getfield 53, 3) := by decide +kernel
theorem dX2_liveMonth_68 : decode cX2_liveMonth 68 = .ok (.aload_n 0, 1) := by decide +kernel
theorem dX2_liveMonth_69 : decode cX2_liveMonth 69 = .ok (.getfield 225, 3) := by decide +kernel
theorem dX2_liveMonth_72 : decode cX2_liveMonth 72 = .ok (.invokestatic 256, 3) := by decide +kernel
theorem dX2_liveMonth_75 : decode cX2_liveMonth 75 = .ok (.invokevirtual 259, 3) := by decide +kernel
theorem dX2_liveMonth_78 : decode cX2_liveMonth 78 = .ok (.iadd, 1) := by decide +kernel
theorem dX2_liveMonth_79 : decode cX2_liveMonth 79 = .ok (.istore_n 1, 1) := by decide +kernel
theorem dX2_liveMonth_80 : decode cX2_liveMonth 80 = .ok (.iinc 2 1, 3) := by decide +kernel
theorem dX2_liveMonth_83 : decode cX2_liveMonth 83 = .ok (.goto (-34), 3) := by decide +kernel
theorem dX2_liveMonth_86 : decode cX2_liveMonth 86 = .ok (.aload_n 0, 1) := by decide +kernel
theorem dX2_liveMonth_87 : decode cX2_liveMonth 87 = .ok (.dup, 1) := by decide +kernel
theorem dX2_liveMonth_88 : decode cX2_liveMonth 88 = .ok (.getfield 225, 3) := by decide +kernel
theorem dX2_liveMonth_91 : decode cX2_liveMonth 91 = .ok (.iconst 1, 1) := by decide +kernel
theorem dX2_liveMonth_92 : decode cX2_liveMonth 92 = .ok (.iadd, 1) := by decide +kernel
theorem dX2_liveMonth_93 : decode cX2_liveMonth 93 = .ok (.putfield 225, 3) := by decide +kernel
theorem dX2_liveMonth_96 : decode cX2_liveMonth 96 = .ok (.iload_n 1, 1) := by decide +kernel
theorem dX2_liveMonth_97 : decode cX2_liveMonth 97 = .ok (.ireturn, 1) := by decide +kernel
set_option maxRecDepth 20000 in
theorem ggX2_findBestBlend_X0_clear : GoodIn wsX2_findBestBlend wsX0_clear := goodIn_r _ [8, 9, 10, 11, 12, 13, 65, 66, 67, 68, 69] (by decide +kernel) (by decide +kernel)
set_option maxRecDepth 20000 in
theorem gX2_findBestBlend_X0_clear : GoodIn wsX2_findBestBlend (wsV RX2 330 RX0 yX0_clear wsX0_clear) := goodIn_app (goodIn_of _ (by decide +kernel)) ggX2_findBestBlend_X0_clear
set_option maxRecDepth 20000 in
theorem ggX2_findBestBlend_X1_canBeBlended : GoodIn wsX2_findBestBlend wsX1_canBeBlended := goodIn_r _ [18, 19, 20, 21, 22, 23, 17, 24, 70, 71, 72, 73, 74, 75, 76, 77, 78, 79, 80] (by decide +kernel) (by decide +kernel)
set_option maxRecDepth 20000 in
theorem gX2_findBestBlend_X1_canBeBlended : GoodIn wsX2_findBestBlend (wsV RX2 331 RX1 yX1_canBeBlended wsX1_canBeBlended) := goodIn_app (goodIn_of _ (by decide +kernel)) ggX2_findBestBlend_X1_canBeBlended
set_option maxRecDepth 20000 in
theorem ggX2_findBestBlend_X2_offerBlends : GoodIn wsX2_findBestBlend wsX2_offerBlends := goodIn_r _ [29, 3, 1, 30, 31, 32, 17, 33, 34, 35, 36, 37, 38, 39, 40, 21, 22, 23, 24, 20, 41, 42, 43, 7, 44, 45, 46, 47, 9, 13, 10, 11, 12, 48, 49, 50, 51, 52, 53, 54, 55, 56, 57, 58, 59, 60, 61, 62, 63, 64, 70, 71, 72, 73, 74, 75, 76, 77, 78, 79, 80, 65, 66, 67, 68, 69] (by decide +kernel) (by decide +kernel)
set_option maxRecDepth 20000 in
theorem gX2_findBestBlend_X2_offerBlends : GoodIn wsX2_findBestBlend (wsV RX2 335 RX2 yX2_offerBlends wsX2_offerBlends) := goodIn_app (goodIn_of _ (by decide +kernel)) ggX2_findBestBlend_X2_offerBlends
theorem dX2_findBestBlend_0 : decode cX2_findBestBlend 0 = .ok (.aload_n 0, 1) := by decide +kernel
theorem dX2_findBestBlend_1 : decode cX2_findBestBlend 1 = .ok (.getfield 49, 3) := by decide +kernel
theorem dX2_findBestBlend_4 : decode cX2_findBestBlend 4 = .ok (.invokevirtual 330, 3) := by decide +kernel
theorem dX2_findBestBlend_7 : decode cX2_findBestBlend 7 = .ok (.iconst 0, 1) := by decide +kernel
theorem dX2_findBestBlend_8 : decode cX2_findBestBlend 8 = .ok (.istore_n 2, 1) := by decide +kernel
theorem dX2_findBestBlend_9 : decode cX2_findBestBlend 9 = .ok (.iload_n 2, 1) := by decide +kernel
theorem dX2_findBestBlend_10 : decode cX2_findBestBlend 10 = .ok (.aload_n 0, 1) := by decide +kernel
theorem dX2_findBestBlend_11 : decode cX2_findBestBlend 11 = .ok (.getfield 114, 3) := by decide +kernel
theorem dX2_findBestBlend_14 : decode cX2_findBestBlend 14 = .ok (.if_icmp .ge 58, 3) := by decide +kernel
theorem dX2_findBestBlend_17 : decode cX2_findBestBlend 17 = .ok (.iload_n 2, 1) := by decide +kernel
theorem dX2_findBestBlend_18 : decode cX2_findBestBlend 18 = .ok (.iconst 1, 1) := by decide +kernel
theorem dX2_findBestBlend_19 : decode cX2_findBestBlend 19 = .ok (.iadd, 1) := by decide +kernel
theorem dX2_findBestBlend_20 : decode cX2_findBestBlend 20 = .ok (.istore_n 3, 1) := by decide +kernel
theorem dX2_findBestBlend_21 : decode cX2_findBestBlend 21 = .ok (.iload_n 3, 1) := by decide +kernel
theorem dX2_findBestBlend_22 : decode cX2_findBestBlend 22 = .ok (.aload_n 0, 1) := by decide +kernel
theorem dX2_findBestBlend_23 : decode cX2_findBestBlend 23 = .ok (.getfield 114, 3) := by decide +kernel
theorem dX2_findBestBlend_26 : decode cX2_findBestBlend 26 = .ok (.if_icmp .ge 40, 3) := by decide +kernel
theorem dX2_findBestBlend_29 : decode cX2_findBestBlend 29 = .ok (.aload_n 0, 1) := by decide +kernel
theorem dX2_findBestBlend_30 : decode cX2_findBestBlend 30 = .ok (.getfield 30, 3) := by decide +kernel
theorem dX2_findBestBlend_33 : decode cX2_findBestBlend 33 = .ok (.iload_n 2, 1) := by decide +kernel
theorem dX2_findBestBlend_34 : decode cX2_findBestBlend 34 = .ok (.aaload, 1) := by decide +kernel
theorem dX2_findBestBlend_35 : decode cX2_findBestBlend 35 = .ok (.invokevirtual 331, 3) := by decide +kernel
theorem dX2_findBestBlend_38 : decode cX2_findBestBlend 38 = .ok (.ifCond .eq 22, 3) := by decide +kernel
theorem dX2_findBestBlend_41 : decode cX2_findBestBlend 41 = .ok (.aload_n 0, 1) := by decide +kernel
theorem dX2_findBestBlend_42 : decode cX2_findBestBlend 42 = .ok (.getfield 30, 3) := by decide +kernel
theorem dX2_findBestBlend_45 : decode cX2_findBestBlend 45 = .ok (.iload_n 3, 1) := by decide +kernel
theorem dX2_findBestBlend_46 : decode cX2_findBestBlend 46 = .ok (.aaload, 1) := by decide +kernel
theorem dX2_findBestBlend_47 : decode cX2_findBestBlend 47 = .ok (.invokevirtual 331, 3) := by decide +kernel
theorem dX2_findBestBlend_50 : decode cX2_findBestBlend 50 = .ok (.ifCond .eq 10, 3) := by decide +kernel
theorem dX2_findBestBlend_53 : decode cX2_findBestBlend 53 = .ok (.aload_n 0, 1) := by decide +kernel
theorem dX2_findBestBlend_54 : decode cX2_findBestBlend 54 = .ok (.iload_n 2, 1) := by decide +kernel
theorem dX2_findBestBlend_55 : decode cX2_findBestBlend 55 = .ok (.iload_n 3, 1) := by decide +kernel
theorem dX2_findBestBlend_56 : decode cX2_findBestBlend 56 = .ok (.iload_n 1, 1) := by decide +kernel
theorem dX2_findBestBlend_57 : decode cX2_findBestBlend 57 = .ok (.invokevirtual 335, 3) := by decide +kernel
theorem dX2_findBestBlend_60 : decode cX2_findBestBlend 60 = .ok (.iinc 3 1, 3) := by decide +kernel
theorem dX2_findBestBlend_63 : decode cX2_findBestBlend 63 = .ok (.goto (-42), 3) := by decide +kernel
theorem dX2_findBestBlend_66 : decode cX2_findBestBlend 66 = .ok (.iinc 2 1, 3) := by decide +kernel
theorem dX2_findBestBlend_69 : decode cX2_findBestBlend 69 = .ok (.goto (-60), 3) := by decide +kernel
theorem dX2_findBestBlend_72 : decode cX2_findBestBlend 72 = .ok (.return_, 1) := by decide +kernel
set_option maxRecDepth 20000 in
theorem ggX2_offerBlends_X1_tasteOfOak : GoodIn wsX2_offerBlends wsX1_tasteOfOak := goodIn_r _ [7, 8, 9, 10, 11, 12, 13, 14, 15, 16, 17, 6, 18, 19, 50, 51, 52, 53, 54, 55, 56, 57, 58, 59, 60] (by decide +kernel) (by decide +kernel)
set_option maxRecDepth 20000 in
theorem gX2_offerBlends_X1_tasteOfOak : GoodIn wsX2_offerBlends (wsV RX2 339 RX1 yX1_tasteOfOak wsX1_tasteOfOak) := goodIn_app (goodIn_of _ (by decide +kernel)) ggX2_offerBlends_X1_tasteOfOak
set_option maxRecDepth 20000 in
theorem ggX2_offerBlends_X0_offer : GoodIn wsX2_offerBlends wsX0_offer := goodIn_r _ [24, 25, 26, 13, 27, 28, 29, 30, 31, 32, 61, 62, 63, 64, 65] (by decide +kernel) (by decide +kernel)
set_option maxRecDepth 20000 in
theorem gX2_offerBlends_X0_offer : GoodIn wsX2_offerBlends (wsV RX2 342 RX0 yX0_offer wsX0_offer) := goodIn_app (goodIn_of _ (by decide +kernel)) ggX2_offerBlends_X0_offer
theorem dX2_offerBlends_0 : decode cX2_offerBlends 0 = .ok (.aload_n 0, 1) := by decide +kernel
theorem dX2_offerBlends_1 : decode cX2_offerBlends 1 = .ok (.getfield 30, 3) := by decide +kernel
theorem dX2_offerBlends_4 : decode cX2_offerBlends 4 = .ok (.iload_n 1, 1) := by decide +kernel
theorem dX2_offerBlends_5 : decode cX2_offerBlends 5 = .ok (.aaload, 1) := by decide +kernel
theorem dX2_offerBlends_6 : decode cX2_offerBlends 6 = .ok (.invokevirtual 339, 3) := by decide +kernel
theorem dX2_offerBlends_9 : decode cX2_offerBlends 9 = .ok (.istore 4, 2) := by decide +kernel
theorem dX2_offerBlends_11 : decode cX2_offerBlends 11 = .ok (.aload_n 0, 1) := by decide +kernel
theorem dX2_offerBlends_12 : decode cX2_offerBlends 12 = .ok (.getfield 30, 3) := by decide +kernel
theorem dX2_offerBlends_15 : decode cX2_offerBlends 15 = .ok (.iload_n 2, 1) := by decide +kernel
theorem dX2_offerBlends_16 : decode cX2_offerBlends 16 = .ok (.aaload, 1) := by decide +kernel
theorem dX2_offerBlends_17 : decode cX2_offerBlends 17 = .ok (.invokevirtual 339, 3) := by decide +kernel
theorem dX2_offerBlends_20 : decode cX2_offerBlends 20 = .ok (.istore 5, 2) := by decide +kernel
theorem dX2_offerBlends_22 : decode cX2_offerBlends 22 = .ok (.iconst 1, 1) := by decide +kernel
theorem dX2_offerBlends_23 : decode cX2_offerBlends 23 = .ok (.istore 6, 2) := by decide +kernel
theorem dX2_offerBlends_25 : decode cX2_offerBlends 25 = .ok (.iload 6, 2) := by decide +kernel
theorem dX2_offerBlends_27 : decode cX2_offerBlends 27 = .ok (.bipush 10, 2) := by decide +kernel
theorem dX2_offerBlends_29 : decode cX2_offerBlends 29 = .ok (.if_icmp .ge 42, 3) := by decide +kernel
theorem dX2_offerBlends_32 : decode cX2_offerBlends 32 = .ok (.iload 6, 2) := by decide +kernel
theorem dX2_offerBlends_34 : decode cX2_offerBlends 34 = .ok (.iload 4, 2) := by decide +kernel
theorem dX2_offerBlends_36 : decode cX2_offerBlends 36 = .ok (.imul, 1) := by decide +kernel
theorem dX2_offerBlends_37 : decode cX2_offerBlends 37 = .ok (.bipush 10, 2) := by decide +kernel
theorem dX2_offerBlends_39 : decode cX2_offerBlends 39 = .ok (.iload 6, 2) := by decide +kernel
theorem dX2_offerBlends_41 : decode cX2_offerBlends 41 = .ok (.isub, 1) := by decide +kernel
theorem dX2_offerBlends_42 : decode cX2_offerBlends 42 = .ok (.iload 5, 2) := by decide +kernel
theorem dX2_offerBlends_44 : decode cX2_offerBlends 44 = .ok (.imul, 1) := by decide +kernel
theorem dX2_offerBlends_45 : decode cX2_offerBlends 45 = .ok (.iadd, 1) := by decide +kernel
theorem dX2_offerBlends_46 : decode cX2_offerBlends 46 = .ok (.bipush 10, 2) := by decide +kernel
theorem dX2_offerBlends_48 : decode cX2_offerBlends 48 = .ok (.idiv, 1) := by decide +kernel
theorem dX2_offerBlends_49 : decode cX2_offerBlends 49 = .ok (.istore 7, 2) := by decide +kernel
theorem dX2_offerBlends_51 : decode cX2_offerBlends 51 = .ok (.aload_n 0, 1) := by decide +kernel
theorem dX2_offerBlends_52 : decode cX2_offerBlends 52 = .ok (.getfield 49, 3) := by decide +kernel
theorem dX2_offerBlends_55 : decode cX2_offerBlends 55 = .ok (.iload_n 1, 1) := by decide +kernel
theorem dX2_offerBlends_56 : decode cX2_offerBlends 56 = .ok (.iload_n 2, 1) := by decide +kernel
theorem dX2_offerBlends_57 : decode cX2_offerBlends 57 = .ok (.iload 6, 2) := by decide +kernel
theorem dX2_offerBlends_59 : decode cX2_offerBlends 59 = .ok (.iload 7, 2) := by decide +kernel
theorem dX2_offerBlends_61 : decode cX2_offerBlends 61 = .ok (.iload_n 3, 1) := by decide +kernel
theorem dX2_offerBlends_62 : decode cX2_offerBlends 62 = .ok (.invokevirtual 342, 3) := by decide +kernel
theorem dX2_offerBlends_65 : decode cX2_offerBlends 65 = .ok (.iinc 6 1, 3) := by decide +kernel
theorem dX2_offerBlends_68 : decode cX2_offerBlends 68 = .ok (.goto (-43), 3) := by decide +kernel
theorem dX2_offerBlends_71 : decode cX2_offerBlends 71 = .ok (.return_, 1) := by decide +kernel
set_option maxRecDepth 20000 in
theorem ggX2_digestCask_X2_tellOfCask : GoodIn wsX2_digestCask wsX2_tellOfCask := goodIn_r _ [9, 2, 10, 11, 12, 13, 14, 15, 16, 17, 18, 19, 20, 8, 21, 22, 23, 24, 25, 26, 27, 28, 29, 30, 31, 32, 33, 34, 35, 36, 37, 38, 39, 40, 41, 42, 43, 44, 45, 46, 47, 48, 49, 50, 51, 52, 53, 54, 55, 56, 57, 58, 59, 60, 61, 62, 63, 64, 65, 66, 67, 68, 69, 70, 71, 72, 73, 74] (by decide +kernel) (by decide +kernel)
set_option maxRecDepth 20000 in
theorem gX2_digestCask_X2_tellOfCask : GoodIn wsX2_digestCask (wsV RX2 194 RX2 yX2_tellOfCask wsX2_tellOfCask) := goodIn_app (goodIn_of _ (by decide +kernel)) ggX2_digestCask_X2_tellOfCask
theorem dX2_digestCask_0 : decode cX2_digestCask 0 = .ok (.lload_n 1, 1) := by decide +kernel
theorem dX2_digestCask_1 : decode cX2_digestCask 1 = .ok (.lstore 4, 2) := by decide +kernel
theorem dX2_digestCask_3 : decode cX2_digestCask 3 = .ok (.iconst 0, 1) := by decide +kernel
theorem dX2_digestCask_4 : decode cX2_digestCask 4 = .ok (.istore 6, 2) := by decide +kernel
theorem dX2_digestCask_6 : decode cX2_digestCask 6 = .ok (.iload 6, 2) := by decide +kernel
theorem dX2_digestCask_8 : decode cX2_digestCask 8 = .ok (.bipush 16, 2) := by decide +kernel
theorem dX2_digestCask_10 : decode cX2_digestCask 10 = .ok (.if_icmp .ge 26, 3) := by decide +kernel
theorem dX2_digestCask_13 : decode cX2_digestCask 13 = .ok (.lload 4, 2) := by decide +kernel
theorem dX2_digestCask_15 : decode cX2_digestCask 15 = .ok (.ldc2_w 289, 3) := by decide +kernel
theorem dX2_digestCask_18 : decode cX2_digestCask 18 = .ok (.lmul, 1) := by decide +kernel
theorem dX2_digestCask_19 : decode cX2_digestCask 19 = .ok (.aload_n 0, 1) := by decide +kernel
theorem dX2_digestCask_20 : decode cX2_digestCask 20 = .ok (.iload_n 3, 1) := by decide +kernel
theorem dX2_digestCask_21 : decode cX2_digestCask 21 = .ok (.iload 6, 2) := by decide +kernel
theorem dX2_digestCask_23 : decode cX2_digestCask 23 = .ok (.invokevirtual 194, 3) := by decide +kernel
theorem dX2_digestCask_26 : decode cX2_digestCask 26 = .ok (.i2l, 1) := by decide +kernel
theorem dX2_digestCask_27 : decode cX2_digestCask 27 = .ok (.ladd, 1) := by decide +kernel
theorem dX2_digestCask_28 : decode cX2_digestCask 28 = .ok (.lstore 4, 2) := by decide +kernel
theorem dX2_digestCask_30 : decode cX2_digestCask 30 = .ok (.iinc 6 1, 3) := by decide +kernel
theorem dX2_digestCask_33 : decode cX2_digestCask 33 = .ok (.goto (-27), 3) := by decide +kernel
theorem dX2_digestCask_36 : decode cX2_digestCask 36 = .ok (.aload_n 0, 1) := by decide +kernel
theorem dX2_digestCask_37 : decode cX2_digestCask 37 = .ok (.getfield 30, 3) := by decide +kernel
theorem dX2_digestCask_40 : decode cX2_digestCask 40 = .ok (.iload_n 3, 1) := by decide +kernel
theorem dX2_digestCask_41 : decode cX2_digestCask 41 = .ok (.aaload, 1) := by decide +kernel
theorem dX2_digestCask_42 : decode cX2_digestCask 42 = .ok (.astore 6, 2) := by decide +kernel
theorem dX2_digestCask_44 : decode cX2_digestCask 44 = .ok (.iconst 0, 1) := by decide +kernel
theorem dX2_digestCask_45 : decode cX2_digestCask 45 = .ok (.istore 7, 2) := by decide +kernel
theorem dX2_digestCask_47 : decode cX2_digestCask 47 = .ok (.iload 7, 2) := by decide +kernel
theorem dX2_digestCask_49 : decode cX2_digestCask 49 = .ok (.aload 6, 2) := by decide +kernel
theorem dX2_digestCask_51 : decode cX2_digestCask 51 = .ok (.getfield 146, 3) := by decide +kernel
theorem dX2_digestCask_54 : decode cX2_digestCask 54 = .ok (.if_icmp .ge 34, 3) := by decide +kernel
theorem dX2_digestCask_57 : decode cX2_digestCask 57 = .ok (.iload 7, 2) := by decide +kernel
theorem dX2_digestCask_59 : decode cX2_digestCask 59 = .ok (.bipush 8, 2) := by decide +kernel
theorem dX2_digestCask_61 : decode cX2_digestCask 61 = .ok (.if_icmp .ge 27, 3) := by decide +kernel
theorem dX2_digestCask_64 : decode cX2_digestCask 64 = .ok (.lload 4, 2) := by decide +kernel
theorem dX2_digestCask_66 : decode cX2_digestCask 66 = .ok (.ldc2_w 289, 3) := by decide +kernel
theorem dX2_digestCask_69 : decode cX2_digestCask 69 = .ok (.lmul, 1) := by decide +kernel
theorem dX2_digestCask_70 : decode cX2_digestCask 70 = .ok (.aload 6, 2) := by decide +kernel
theorem dX2_digestCask_72 : decode cX2_digestCask 72 = .ok (.getfield 153, 3) := by decide +kernel
theorem dX2_digestCask_75 : decode cX2_digestCask 75 = .ok (.iload 7, 2) := by decide +kernel
theorem dX2_digestCask_77 : decode cX2_digestCask 77 = .ok (.iaload, 1) := by decide +kernel
theorem dX2_digestCask_78 : decode cX2_digestCask 78 = .ok (.i2l, 1) := by decide +kernel
theorem dX2_digestCask_79 : decode cX2_digestCask 79 = .ok (.ladd, 1) := by decide +kernel
theorem dX2_digestCask_80 : decode cX2_digestCask 80 = .ok (.lstore 4, 2) := by decide +kernel
theorem dX2_digestCask_82 : decode cX2_digestCask 82 = .ok (.iinc 7 1, 3) := by decide +kernel
theorem dX2_digestCask_85 : decode cX2_digestCask 85 = .ok (.goto (-38), 3) := by decide +kernel
theorem dX2_digestCask_88 : decode cX2_digestCask 88 = .ok (.lload 4, 2) := by decide +kernel
theorem dX2_digestCask_90 : decode cX2_digestCask 90 = .ok (.lreturn, 1) := by decide +kernel
theorem dX3_init_0 : decode cX3_init 0 = .ok (.aload_n 0, 1) := by decide +kernel
theorem dX3_init_1 : decode cX3_init 1 = .ok (.invokespecial 1, 3) := by decide +kernel
theorem dX3_init_4 : decode cX3_init 4 = .ok (.aload_n 0, 1) := by decide +kernel
theorem dX3_init_5 : decode cX3_init 5 = .ok (.iconst 2, 1) := by decide +kernel
theorem dX3_init_6 : decode cX3_init 6 = .ok (.putfield 7, 3) := by decide +kernel
theorem dX3_init_9 : decode cX3_init 9 = .ok (.aload_n 0, 1) := by decide +kernel
theorem dX3_init_10 : decode cX3_init 10 = .ok (.bipush 60, 2) := by decide +kernel
theorem dX3_init_12 : decode cX3_init 12 = .ok (.newarray .int, 2) := by decide +kernel
theorem dX3_init_14 : decode cX3_init 14 = .ok (.putfield 13, 3) := by decide +kernel
theorem dX3_init_17 : decode cX3_init 17 = .ok (.aload_n 0, 1) := by decide +kernel
theorem dX3_init_18 : decode cX3_init 18 = .ok (.bipush 60, 2) := by decide +kernel
theorem dX3_init_20 : decode cX3_init 20 = .ok (.newarray .int, 2) := by decide +kernel
theorem dX3_init_22 : decode cX3_init 22 = .ok (.putfield 17, 3) := by decide +kernel
theorem dX3_init_25 : decode cX3_init 25 = .ok (.aload_n 0, 1) := by decide +kernel
theorem dX3_init_26 : decode cX3_init 26 = .ok (.bipush 60, 2) := by decide +kernel
theorem dX3_init_28 : decode cX3_init 28 = .ok (.newarray .int, 2) := by decide +kernel
theorem dX3_init_30 : decode cX3_init 30 = .ok (.putfield 20, 3) := by decide +kernel
theorem dX3_init_33 : decode cX3_init 33 = .ok (.aload_n 0, 1) := by decide +kernel
theorem dX3_init_34 : decode cX3_init 34 = .ok (.bipush 6, 2) := by decide +kernel
theorem dX3_init_36 : decode cX3_init 36 = .ok (.newarray .int, 2) := by decide +kernel
theorem dX3_init_38 : decode cX3_init 38 = .ok (.putfield 23, 3) := by decide +kernel
theorem dX3_init_41 : decode cX3_init 41 = .ok (.aload_n 0, 1) := by decide +kernel
theorem dX3_init_42 : decode cX3_init 42 = .ok (.bipush 6, 2) := by decide +kernel
theorem dX3_init_44 : decode cX3_init 44 = .ok (.newarray .int, 2) := by decide +kernel
theorem dX3_init_46 : decode cX3_init 46 = .ok (.putfield 26, 3) := by decide +kernel
theorem dX3_init_49 : decode cX3_init 49 = .ok (.aload_n 0, 1) := by decide +kernel
theorem dX3_init_50 : decode cX3_init 50 = .ok (.bipush 6, 2) := by decide +kernel
theorem dX3_init_52 : decode cX3_init 52 = .ok (.newarray .int, 2) := by decide +kernel
theorem dX3_init_54 : decode cX3_init 54 = .ok (.putfield 29, 3) := by decide +kernel
theorem dX3_init_57 : decode cX3_init 57 = .ok (.aload_n 0, 1) := by decide +kernel
theorem dX3_init_58 : decode cX3_init 58 = .ok (.bipush 12, 2) := by decide +kernel
theorem dX3_init_60 : decode cX3_init 60 = .ok (.newarray .int, 2) := by decide +kernel
theorem dX3_init_62 : decode cX3_init 62 = .ok (.putfield 32, 3) := by decide +kernel
theorem dX3_init_65 : decode cX3_init 65 = .ok (.aload_n 0, 1) := by decide +kernel
theorem dX3_init_66 : decode cX3_init 66 = .ok (.bipush 12, 2) := by decide +kernel
theorem dX3_init_68 : decode cX3_init 68 = .ok (.newarray .boolean, 2) := by decide +kernel
theorem dX3_init_70 : decode cX3_init 70 = .ok (.putfield 35, 3) := by decide +kernel
theorem dX3_init_73 : decode cX3_init 73 = .ok (.aload_n 0, 1) := by decide +kernel
theorem dX3_init_74 : decode cX3_init 74 = .ok (.bipush 12, 2) := by decide +kernel
theorem dX3_init_76 : decode cX3_init 76 = .ok (.newarray .int, 2) := by decide +kernel
theorem dX3_init_78 : decode cX3_init 78 = .ok (.putfield 39, 3) := by decide +kernel
theorem dX3_init_81 : decode cX3_init 81 = .ok (.aload_n 0, 1) := by decide +kernel
theorem dX3_init_82 : decode cX3_init 82 = .ok (.bipush 96, 2) := by decide +kernel
theorem dX3_init_84 : decode cX3_init 84 = .ok (.newarray .int, 2) := by decide +kernel
theorem dX3_init_86 : decode cX3_init 86 = .ok (.putfield 42, 3) := by decide +kernel
theorem dX3_init_89 : decode cX3_init 89 = .ok (.aload_n 0, 1) := by decide +kernel
theorem dX3_init_90 : decode cX3_init 90 = .ok (.bipush 12, 2) := by decide +kernel
theorem dX3_init_92 : decode cX3_init 92 = .ok (.newarray .int, 2) := by decide +kernel
theorem dX3_init_94 : decode cX3_init 94 = .ok (.putfield 45, 3) := by decide +kernel
theorem dX3_init_97 : decode cX3_init 97 = .ok (.aload_n 0, 1) := by decide +kernel
theorem dX3_init_98 : decode cX3_init 98 = .ok (.bipush 12, 2) := by decide +kernel
theorem dX3_init_100 : decode cX3_init 100 = .ok (.newarray .int, 2) := by decide +kernel
theorem dX3_init_102 : decode cX3_init 102 = .ok (.putfield 48, 3) := by decide +kernel
theorem dX3_init_105 : decode cX3_init 105 = .ok (.aload_n 0, 1) := by decide +kernel
theorem dX3_init_106 : decode cX3_init 106 = .ok (.bipush 12, 2) := by decide +kernel
theorem dX3_init_108 : decode cX3_init 108 = .ok (.newarray .int, 2) := by decide +kernel
theorem dX3_init_110 : decode cX3_init 110 = .ok (.putfield 51, 3) := by decide +kernel
theorem dX3_init_113 : decode cX3_init 113 = .ok (.aload_n 0, 1) := by decide +kernel
theorem dX3_init_114 : decode cX3_init 114 = .ok (.bipush 60, 2) := by decide +kernel
theorem dX3_init_116 : decode cX3_init 116 = .ok (.newarray .int, 2) := by decide +kernel
theorem dX3_init_118 : decode cX3_init 118 = .ok (.putfield 54, 3) := by decide +kernel
theorem dX3_init_121 : decode cX3_init 121 = .ok (.aload_n 0, 1) := by decide +kernel
theorem dX3_init_122 : decode cX3_init 122 = .ok (.bipush 12, 2) := by decide +kernel
theorem dX3_init_124 : decode cX3_init 124 = .ok (.newarray .int, 2) := by decide +kernel
theorem dX3_init_126 : decode cX3_init 126 = .ok (.putfield 57, 3) := by decide +kernel
theorem dX3_init_129 : decode cX3_init 129 = .ok (.aload_n 0, 1) := by decide +kernel
theorem dX3_init_130 : decode cX3_init 130 = .ok (.ldc 60, 2) := by decide +kernel
theorem dX3_init_132 : decode cX3_init 132 = .ok (.newarray .int, 2) := by decide +kernel
theorem dX3_init_134 : decode cX3_init 134 = .ok (.putfield 61, 3) := by decide +kernel
theorem dX3_init_137 : decode cX3_init 137 = .ok (.aload_n 0, 1) := by decide +kernel
theorem dX3_init_138 : decode cX3_init 138 = .ok (.bipush 60, 2) := by decide +kernel
theorem dX3_init_140 : decode cX3_init 140 = .ok (.newarray .int, 2) := by decide +kernel
theorem dX3_init_142 : decode cX3_init 142 = .ok (.putfield 64, 3) := by decide +kernel
theorem dX3_init_145 : decode cX3_init 145 = .ok (.return_, 1) := by decide +kernel
theorem dX3_thrown_0 : decode cX3_thrown 0 = .ok (.aload_n 0, 1) := by decide +kernel
theorem dX3_thrown_1 : decode cX3_thrown 1 = .ok (.getfield 67, 3) := by decide +kernel
theorem dX3_thrown_4 : decode cX3_thrown 4 = .ok (.ireturn, 1) := by decide +kernel
theorem dX3_no_0 : decode cX3_no 0 = .ok (.aload_n 0, 1) := by decide +kernel
theorem dX3_no_1 : decode cX3_no 1 = .ok (.iload_n 1, 1) := by decide +kernel
theorem dX3_no_2 : decode cX3_no 2 = .ok (.putfield 67, 3) := by decide +kernel
theorem dX3_no_5 : decode cX3_no 5 = .ok (.iconst 0, 1) := by decide +kernel
theorem dX3_no_6 : decode cX3_no 6 = .ok (.ireturn, 1) := by decide +kernel
theorem dX3_isIn_0 : decode cX3_isIn 0 = .ok (.iload_n 0, 1) := by decide +kernel
theorem dX3_isIn_1 : decode cX3_isIn 1 = .ok (.iload_n 1, 1) := by decide +kernel
theorem dX3_isIn_2 : decode cX3_isIn 2 = .ok (.if_icmp .lt 12, 3) := by decide +kernel
theorem dX3_isIn_5 : decode cX3_isIn 5 = .ok (.iload_n 0, 1) := by decide +kernel
theorem dX3_isIn_6 : decode cX3_isIn 6 = .ok (.iload_n 2, 1) := by decide +kernel
theorem dX3_isIn_7 : decode cX3_isIn 7 = .ok (.if_icmp .gt 7, 3) := by decide +kernel
theorem dX3_isIn_10 : decode cX3_isIn 10 = .ok (.iconst 1, 1) := by decide +kernel
theorem dX3_isIn_11 : decode cX3_isIn 11 = .ok (.goto 4, 3) := by decide +kernel
theorem dX3_isIn_14 : decode cX3_isIn 14 = .ok (.iconst 0, 1) := by decide +kernel
theorem dX3_isIn_15 : decode cX3_isIn 15 = .ok (.ireturn, 1) := by decide +kernel
set_option maxRecDepth 20000 in
theorem ggX3_addStave_X3_isIn : GoodIn wsX3_addStave wsX3_isIn := goodIn_r _ [9] (by decide +kernel) (by decide +kernel)
set_option maxRecDepth 20000 in
theorem gX3_addStave_X3_isIn : GoodIn wsX3_addStave (va_wsS RX3 70 yX3_isIn wsX3_isIn) := goodIn_app (goodIn_of _ (by decide +kernel)) ggX3_addStave_X3_isIn
set_option maxRecDepth 20000 in
theorem ggX3_addStave_X3_no : GoodIn wsX3_addStave wsX3_no := goodIn_r _ [13, 1, 14, 15, 16, 17, 18, 19, 20, 21, 22, 23, 24, 25, 26, 27, 28, 29, 30, 31, 32, 33, 34, 35, 36, 37, 38] (by decide +kernel) (by decide +kernel)
set_option maxRecDepth 20000 in
theorem gX3_addStave_X3_no : GoodIn wsX3_addStave (wsV RX3 74 RX3 yX3_no wsX3_no) := goodIn_app (goodIn_of _ (by decide +kernel)) ggX3_addStave_X3_no
theorem dX3_addStave_0 : decode cX3_addStave 0 = .ok (.aload_n 0, 1) := by decide +kernel
theorem dX3_addStave_1 : decode cX3_addStave 1 = .ok (.iconst 0, 1) := by decide +kernel
theorem dX3_addStave_2 : decode cX3_addStave 2 = .ok (.putfield 67, 3) := by decide +kernel
theorem dX3_addStave_5 : decode cX3_addStave 5 = .ok (.iload_n 1, 1) := by decide +kernel
theorem dX3_addStave_6 : decode cX3_addStave 6 = .ok (.bipush 20, 2) := by decide +kernel
theorem dX3_addStave_8 : decode cX3_addStave 8 = .ok (.bipush 120, 2) := by decide +kernel
theorem dX3_addStave_10 : decode cX3_addStave 10 = .ok (.invokestatic 70, 3) := by decide +kernel
theorem dX3_addStave_13 : decode cX3_addStave 13 = .ok (.ifCond .eq 13, 3) := by decide +kernel
theorem dX3_addStave_16 : decode cX3_addStave 16 = .ok (.iload_n 2, 1) := by decide +kernel
theorem dX3_addStave_17 : decode cX3_addStave 17 = .ok (.iconst 0, 1) := by decide +kernel
theorem dX3_addStave_18 : decode cX3_addStave 18 = .ok (.bipush 100, 2) := by decide +kernel
theorem dX3_addStave_20 : decode cX3_addStave 20 = .ok (.invokestatic 70, 3) := by decide +kernel
theorem dX3_addStave_23 : decode cX3_addStave 23 = .ok (.ifCond .ne 9, 3) := by decide +kernel
theorem dX3_addStave_26 : decode cX3_addStave 26 = .ok (.aload_n 0, 1) := by decide +kernel
theorem dX3_addStave_27 : decode cX3_addStave 27 = .ok (.iconst 1, 1) := by decide +kernel
theorem dX3_addStave_28 : decode cX3_addStave 28 = .ok (.invokevirtual 74, 3) := by decide +kernel
theorem dX3_addStave_31 : decode cX3_addStave 31 = .ok (.ireturn, 1) := by decide +kernel
theorem dX3_addStave_32 : decode cX3_addStave 32 = .ok (.aload_n 0, 1) := by decide +kernel
theorem dX3_addStave_33 : decode cX3_addStave 33 = .ok (.getfield 78, 3) := by decide +kernel
theorem dX3_addStave_36 : decode cX3_addStave 36 = .ok (.bipush 60, 2) := by decide +kernel
theorem dX3_addStave_38 : decode cX3_addStave 38 = .ok (.if_icmp .ne 9, 3) := by decide +kernel
theorem dX3_addStave_41 : decode cX3_addStave 41 = .ok (.aload_n 0, 1) := by decide +kernel
theorem dX3_addStave_42 : decode cX3_addStave 42 = .ok (.iconst 2, 1) := by decide +kernel
theorem dX3_addStave_43 : decode cX3_addStave 43 = .ok (.invokevirtual 74, 3) := by decide +kernel
theorem dX3_addStave_46 : decode cX3_addStave 46 = .ok (.ireturn, 1) := by decide +kernel
theorem dX3_addStave_47 : decode cX3_addStave 47 = .ok (.aload_n 0, 1) := by decide +kernel
theorem dX3_addStave_48 : decode cX3_addStave 48 = .ok (.getfield 13, 3) := by decide +kernel
theorem dX3_addStave_51 : decode cX3_addStave 51 = .ok (.aload_n 0, 1) := by decide +kernel
theorem dX3_addStave_52 : decode cX3_addStave 52 = .ok (.getfield 78, 3) := by decide +kernel
theorem dX3_addStave_55 : decode cX3_addStave 55 = .ok (.iload_n 1, 1) := by decide +kernel
theorem dX3_addStave_56 : decode cX3_addStave 56 = .ok (.iastore, 1) := by decide +kernel
theorem dX3_addStave_57 : decode cX3_addStave 57 = .ok (.aload_n 0, 1) := by decide +kernel
theorem dX3_addStave_58 : decode cX3_addStave 58 = .ok (.getfield 17, 3) := by decide +kernel
theorem dX3_addStave_61 : decode cX3_addStave 61 = .ok (.aload_n 0, 1) := by decide +kernel
theorem dX3_addStave_62 : decode cX3_addStave 62 = .ok (.getfield 78, 3) := by decide +kernel
theorem dX3_addStave_65 : decode cX3_addStave 65 = .ok (.iload_n 2, 1) := by decide +kernel
theorem dX3_addStave_66 : decode cX3_addStave 66 = .ok (.iastore, 1) := by decide +kernel
theorem dX3_addStave_67 : decode cX3_addStave 67 = .ok (.aload_n 0, 1) := by decide +kernel
theorem dX3_addStave_68 : decode cX3_addStave 68 = .ok (.getfield 20, 3) := by decide +kernel
theorem dX3_addStave_71 : decode cX3_addStave 71 = .ok (.aload_n 0, 1) := by decide +kernel
theorem dX3_addStave_72 : decode cX3_addStave 72 = .ok (.getfield 78, 3) := by decide +kernel
theorem dX3_addStave_75 : decode cX3_addStave 75 = .ok (.iconst (-1), 1) := by decide +kernel
theorem dX3_addStave_76 : decode cX3_addStave 76 = .ok (.iastore, 1) := by decide +kernel
theorem dX3_addStave_77 : decode cX3_addStave 77 = .ok (.aload_n 0, 1) := by decide +kernel
theorem dX3_addStave_78 : decode cX3_addStave 78 = .ok (.dup, 1) := by decide +kernel
theorem dX3_addStave_79 : decode cX3_addStave 79 = .ok (.getfield 78, 3) := by decide +kernel
theorem dX3_addStave_82 : decode cX3_addStave 82 = .ok (.iconst 1, 1) := by decide +kernel
theorem dX3_addStave_83 : decode cX3_addStave 83 = .ok (.iadd, 1) := by decide +kernel
theorem dX3_addStave_84 : decode cX3_addStave 84 = .ok (.putfield 78, 3) := by decide +kernel
theorem dX3_addStave_87 : decode cX3_addStave 87 = .ok (.aload_n 0, 1) := by decide +kernel
theorem dX3_addStave_88 : decode cX3_addStave 88 = .ok (.getfield 78, 3) := by decide +kernel
theorem dX3_addStave_91 : decode cX3_addStave 91 = .ok (.iconst 1, 1) := by decide +kernel
theorem dX3_addStave_92 : decode cX3_addStave 92 = .ok (.isub, 1) := by decide +kernel
theorem dX3_addStave_93 : decode cX3_addStave 93 = .ok (.ireturn, 1) := by decide +kernel
set_option maxRecDepth 20000 in
theorem ggX3_isStave_X3_isIn : GoodIn wsX3_isStave wsX3_isIn := goodIn_r _ [5] (by decide +kernel) (by decide +kernel)
set_option maxRecDepth 20000 in
theorem gX3_isStave_X3_isIn : GoodIn wsX3_isStave (va_wsS RX3 70 yX3_isIn wsX3_isIn) := goodIn_app (goodIn_of _ (by decide +kernel)) ggX3_isStave_X3_isIn
theorem dX3_isStave_0 : decode cX3_isStave 0 = .ok (.iload_n 1, 1) := by decide +kernel
theorem dX3_isStave_1 : decode cX3_isStave 1 = .ok (.iconst 0, 1) := by decide +kernel
theorem dX3_isStave_2 : decode cX3_isStave 2 = .ok (.aload_n 0, 1) := by decide +kernel
theorem dX3_isStave_3 : decode cX3_isStave 3 = .ok (.getfield 78, 3) := by decide +kernel
theorem dX3_isStave_6 : decode cX3_isStave 6 = .ok (.iconst 1, 1) := by decide +kernel
theorem dX3_isStave_7 : decode cX3_isStave 7 = .ok (.isub, 1) := by decide +kernel
theorem dX3_isStave_8 : decode cX3_isStave 8 = .ok (.invokestatic 70, 3) := by decide +kernel
theorem dX3_isStave_11 : decode cX3_isStave 11 = .ok (.ireturn, 1) := by decide +kernel
theorem dX3_staveTold_0 : decode cX3_staveTold 0 = .ok (.iload_n 2, 1) := by decide +kernel
theorem dX3_staveTold_1 : decode cX3_staveTold 1 = .ok (.ifCond .ne 12, 3) := by decide +kernel
theorem dX3_staveTold_4 : decode cX3_staveTold 4 = .ok (.aload_n 0, 1) := by decide +kernel
theorem dX3_staveTold_5 : decode cX3_staveTold 5 = .ok (.getfield 13, 3) := by decide +kernel
theorem dX3_staveTold_8 : decode cX3_staveTold 8 = .ok (.iload_n 1, 1) := by decide +kernel
theorem dX3_staveTold_9 : decode cX3_staveTold 9 = .ok (.iaload, 1) := by decide +kernel
theorem dX3_staveTold_10 : decode cX3_staveTold 10 = .ok (.goto 23, 3) := by decide +kernel
theorem dX3_staveTold_13 : decode cX3_staveTold 13 = .ok (.iload_n 2, 1) := by decide +kernel
theorem dX3_staveTold_14 : decode cX3_staveTold 14 = .ok (.iconst 1, 1) := by decide +kernel
theorem dX3_staveTold_15 : decode cX3_staveTold 15 = .ok (.if_icmp .ne 12, 3) := by decide +kernel
theorem dX3_staveTold_18 : decode cX3_staveTold 18 = .ok (.aload_n 0, 1) := by decide +kernel
theorem dX3_staveTold_19 : decode cX3_staveTold 19 = .ok (.getfield 17, 3) := by decide +kernel
theorem dX3_staveTold_22 : decode cX3_staveTold 22 = .ok (.iload_n 1, 1) := by decide +kernel
theorem dX3_staveTold_23 : decode cX3_staveTold 23 = .ok (.iaload, 1) := by decide +kernel
theorem dX3_staveTold_24 : decode cX3_staveTold 24 = .ok (.goto 9, 3) := by decide +kernel
theorem dX3_staveTold_27 : decode cX3_staveTold 27 = .ok (.aload_n 0, 1) := by decide +kernel
theorem dX3_staveTold_28 : decode cX3_staveTold 28 = .ok (.getfield 20, 3) := by decide +kernel
theorem dX3_staveTold_31 : decode cX3_staveTold 31 = .ok (.iload_n 1, 1) := by decide +kernel
theorem dX3_staveTold_32 : decode cX3_staveTold 32 = .ok (.iaload, 1) := by decide +kernel
theorem dX3_staveTold_33 : decode cX3_staveTold 33 = .ok (.ireturn, 1) := by decide +kernel
set_option maxRecDepth 20000 in
theorem ggX3_stave_X3_isStave : GoodIn wsX3_stave wsX3_isStave := goodIn_r _ [6, 7, 8, 9, 5, 10, 22, 23, 24, 25, 26, 27, 28, 29, 30, 31, 32, 33, 34, 35, 36, 37, 38, 39, 40, 41, 42, 43, 44, 45, 46] (by decide +kernel) (by decide +kernel)
set_option maxRecDepth 20000 in
theorem gX3_stave_X3_isStave : GoodIn wsX3_stave (wsV RX3 81 RX3 yX3_isStave wsX3_isStave) := goodIn_app (goodIn_of _ (by decide +kernel)) ggX3_stave_X3_isStave
set_option maxRecDepth 20000 in
theorem ggX3_stave_X3_isIn : GoodIn wsX3_stave wsX3_isIn := goodIn_r _ [10] (by decide +kernel) (by decide +kernel)
set_option maxRecDepth 20000 in
theorem gX3_stave_X3_isIn : GoodIn wsX3_stave (va_wsS RX3 70 yX3_isIn wsX3_isIn) := goodIn_app (goodIn_of _ (by decide +kernel)) ggX3_stave_X3_isIn
set_option maxRecDepth 20000 in
theorem ggX3_stave_X3_staveTold : GoodIn wsX3_stave wsX3_staveTold := goodIn_r _ [14, 15, 16, 17, 22, 23, 24, 25, 26, 27, 28, 29, 30, 31, 32, 33, 34, 35, 36, 37, 38, 39, 40, 41, 42, 43, 44, 45, 46] (by decide +kernel) (by decide +kernel)
set_option maxRecDepth 20000 in
theorem gX3_stave_X3_staveTold : GoodIn wsX3_stave (wsV RX3 85 RX3 yX3_staveTold wsX3_staveTold) := goodIn_app (goodIn_of _ (by decide +kernel)) ggX3_stave_X3_staveTold
set_option maxRecDepth 20000 in
theorem ggX3_stave_X3_no : GoodIn wsX3_stave wsX3_no := goodIn_r _ [21, 1, 22, 23, 24, 25, 26, 27, 28, 29, 30, 31, 32, 33, 34, 35, 36, 37, 38, 39, 40, 41, 42, 43, 44, 45, 46] (by decide +kernel) (by decide +kernel)
set_option maxRecDepth 20000 in
theorem gX3_stave_X3_no : GoodIn wsX3_stave (wsV RX3 74 RX3 yX3_no wsX3_no) := goodIn_app (goodIn_of _ (by decide +kernel)) ggX3_stave_X3_no
theorem dX3_stave_0 : decode cX3_stave 0 = .ok (.aload_n 0, 1) := by decide +kernel
theorem dX3_stave_1 : decode cX3_stave 1 = .ok (.iconst 0, 1) := by decide +kernel
theorem dX3_stave_2 : decode cX3_stave 2 = .ok (.putfield 67, 3) := by decide +kernel
theorem dX3_stave_5 : decode cX3_stave 5 = .ok (.aload_n 0, 1) := by decide +kernel
theorem dX3_stave_6 : decode cX3_stave 6 = .ok (.iload_n 1, 1) := by decide +kernel
theorem dX3_stave_7 : decode cX3_stave 7 = .ok (.invokevirtual 81, 3) := by decide +kernel
theorem dX3_stave_10 : decode cX3_stave 10 = .ok (.ifCond .eq 21, 3) := by decide +kernel
theorem dX3_stave_13 : decode cX3_stave 13 = .ok (.iload_n 2, 1) := by decide +kernel
theorem dX3_stave_14 : decode cX3_stave 14 = .ok (.iconst 0, 1) := by decide +kernel
theorem dX3_stave_15 : decode cX3_stave 15 = .ok (.iconst 2, 1) := by decide +kernel
theorem dX3_stave_16 : decode cX3_stave 16 = .ok (.invokestatic 70, 3) := by decide +kernel
theorem dX3_stave_19 : decode cX3_stave 19 = .ok (.ifCond .eq 12, 3) := by decide +kernel
theorem dX3_stave_22 : decode cX3_stave 22 = .ok (.aload_n 0, 1) := by decide +kernel
theorem dX3_stave_23 : decode cX3_stave 23 = .ok (.iload_n 1, 1) := by decide +kernel
theorem dX3_stave_24 : decode cX3_stave 24 = .ok (.iload_n 2, 1) := by decide +kernel
theorem dX3_stave_25 : decode cX3_stave 25 = .ok (.invokevirtual 85, 3) := by decide +kernel
theorem dX3_stave_28 : decode cX3_stave 28 = .ok (.goto 8, 3) := by decide +kernel
theorem dX3_stave_31 : decode cX3_stave 31 = .ok (.aload_n 0, 1) := by decide +kernel
theorem dX3_stave_32 : decode cX3_stave 32 = .ok (.iconst 1, 1) := by decide +kernel
theorem dX3_stave_33 : decode cX3_stave 33 = .ok (.invokevirtual 74, 3) := by decide +kernel
theorem dX3_stave_36 : decode cX3_stave 36 = .ok (.ireturn, 1) := by decide +kernel
set_option maxRecDepth 20000 in
theorem ggX3_addSort_X3_isIn : GoodIn wsX3_addSort wsX3_isIn := goodIn_r _ [10] (by decide +kernel) (by decide +kernel)
set_option maxRecDepth 20000 in
theorem gX3_addSort_X3_isIn : GoodIn wsX3_addSort (va_wsS RX3 70 yX3_isIn wsX3_isIn) := goodIn_app (goodIn_of _ (by decide +kernel)) ggX3_addSort_X3_isIn
set_option maxRecDepth 20000 in
theorem ggX3_addSort_X3_no : GoodIn wsX3_addSort wsX3_no := goodIn_r _ [14, 1, 15, 16, 17, 18, 19, 20, 21, 22, 23, 24, 25, 26, 27, 28, 29, 30, 31, 32, 33, 34, 35, 36, 37, 38, 39] (by decide +kernel) (by decide +kernel)
set_option maxRecDepth 20000 in
theorem gX3_addSort_X3_no : GoodIn wsX3_addSort (wsV RX3 74 RX3 yX3_no wsX3_no) := goodIn_app (goodIn_of _ (by decide +kernel)) ggX3_addSort_X3_no
theorem dX3_addSort_0 : decode cX3_addSort 0 = .ok (.aload_n 0, 1) := by decide +kernel
theorem dX3_addSort_1 : decode cX3_addSort 1 = .ok (.iconst 0, 1) := by decide +kernel
theorem dX3_addSort_2 : decode cX3_addSort 2 = .ok (.putfield 67, 3) := by decide +kernel
theorem dX3_addSort_5 : decode cX3_addSort 5 = .ok (.iload_n 1, 1) := by decide +kernel
theorem dX3_addSort_6 : decode cX3_addSort 6 = .ok (.sipush 300, 3) := by decide +kernel
theorem dX3_addSort_9 : decode cX3_addSort 9 = .ok (.sipush 1500, 3) := by decide +kernel
theorem dX3_addSort_12 : decode cX3_addSort 12 = .ok (.invokestatic 70, 3) := by decide +kernel
theorem dX3_addSort_15 : decode cX3_addSort 15 = .ok (.ifCond .eq 24, 3) := by decide +kernel
theorem dX3_addSort_18 : decode cX3_addSort 18 = .ok (.iload_n 2, 1) := by decide +kernel
theorem dX3_addSort_19 : decode cX3_addSort 19 = .ok (.bipush 100, 2) := by decide +kernel
theorem dX3_addSort_21 : decode cX3_addSort 21 = .ok (.ldc 89, 2) := by decide +kernel
theorem dX3_addSort_23 : decode cX3_addSort 23 = .ok (.invokestatic 70, 3) := by decide +kernel
theorem dX3_addSort_26 : decode cX3_addSort 26 = .ok (.ifCond .eq 13, 3) := by decide +kernel
theorem dX3_addSort_29 : decode cX3_addSort 29 = .ok (.iload_n 3, 1) := by decide +kernel
theorem dX3_addSort_30 : decode cX3_addSort 30 = .ok (.iconst 2, 1) := by decide +kernel
theorem dX3_addSort_31 : decode cX3_addSort 31 = .ok (.bipush 8, 2) := by decide +kernel
theorem dX3_addSort_33 : decode cX3_addSort 33 = .ok (.invokestatic 70, 3) := by decide +kernel
theorem dX3_addSort_36 : decode cX3_addSort 36 = .ok (.ifCond .ne 9, 3) := by decide +kernel
theorem dX3_addSort_39 : decode cX3_addSort 39 = .ok (.aload_n 0, 1) := by decide +kernel
theorem dX3_addSort_40 : decode cX3_addSort 40 = .ok (.iconst 1, 1) := by decide +kernel
theorem dX3_addSort_41 : decode cX3_addSort 41 = .ok (.invokevirtual 74, 3) := by decide +kernel
theorem dX3_addSort_44 : decode cX3_addSort 44 = .ok (.ireturn, 1) := by decide +kernel
theorem dX3_addSort_45 : decode cX3_addSort 45 = .ok (.aload_n 0, 1) := by decide +kernel
theorem dX3_addSort_46 : decode cX3_addSort 46 = .ok (.getfield 90, 3) := by decide +kernel
theorem dX3_addSort_49 : decode cX3_addSort 49 = .ok (.bipush 6, 2) := by decide +kernel
theorem dX3_addSort_51 : decode cX3_addSort 51 = .ok (.if_icmp .ne 9, 3) := by decide +kernel
theorem dX3_addSort_54 : decode cX3_addSort 54 = .ok (.aload_n 0, 1) := by decide +kernel
theorem dX3_addSort_55 : decode cX3_addSort 55 = .ok (.iconst 2, 1) := by decide +kernel
theorem dX3_addSort_56 : decode cX3_addSort 56 = .ok (.invokevirtual 74, 3) := by decide +kernel
theorem dX3_addSort_59 : decode cX3_addSort 59 = .ok (.ireturn, 1) := by decide +kernel
theorem dX3_addSort_60 : decode cX3_addSort 60 = .ok (.aload_n 0, 1) := by decide +kernel
theorem dX3_addSort_61 : decode cX3_addSort 61 = .ok (.getfield 23, 3) := by decide +kernel
theorem dX3_addSort_64 : decode cX3_addSort 64 = .ok (.aload_n 0, 1) := by decide +kernel
theorem dX3_addSort_65 : decode cX3_addSort 65 = .ok (.getfield 90, 3) := by decide +kernel
theorem dX3_addSort_68 : decode cX3_addSort 68 = .ok (.iload_n 1, 1) := by decide +kernel
theorem dX3_addSort_69 : decode cX3_addSort 69 = .ok (.iastore, 1) := by decide +kernel
theorem dX3_addSort_70 : decode cX3_addSort 70 = .ok (.aload_n 0, 1) := by decide +kernel
theorem dX3_addSort_71 : decode cX3_addSort 71 = .ok (.getfield 26, 3) := by decide +kernel
theorem dX3_addSort_74 : decode cX3_addSort 74 = .ok (.aload_n 0, 1) := by decide +kernel
theorem dX3_addSort_75 : decode cX3_addSort 75 = .ok (.getfield 90, 3) := by decide +kernel
theorem dX3_addSort_78 : decode cX3_addSort 78 = .ok (.iload_n 2, 1) := by decide +kernel
theorem dX3_addSort_79 : decode cX3_addSort 79 = .ok (.iastore, 1) := by decide +kernel
theorem dX3_addSort_80 : decode cX3_addSort 80 = .ok (.aload_n 0, 1) := by decide +kernel
theorem dX3_addSort_81 : decode cX3_addSort 81 = .ok (.getfield 29, 3) := by decide +kernel
theorem dX3_addSort_84 : decode cX3_addSort 84 = .ok (.aload_n 0, 1) := by decide +kernel
theorem dX3_addSort_85 : decode cX3_addSort 85 = .ok (.getfield 90, 3) := by decide +kernel
theorem dX3_addSort_88 : decode cX3_addSort 88 = .ok (.iload_n 3, 1) := by decide +kernel
theorem dX3_addSort_89 : decode cX3_addSort 89 = .ok (.iastore, 1) := by decide +kernel
theorem dX3_addSort_90 : decode cX3_addSort 90 = .ok (.aload_n 0, 1) := by decide +kernel
theorem dX3_addSort_91 : decode cX3_addSort 91 = .ok (.dup, 1) := by decide +kernel
theorem dX3_addSort_92 : decode cX3_addSort 92 = .ok (.getfield 90, 3) := by decide +kernel
theorem dX3_addSort_95 : decode cX3_addSort 95 = .ok (.iconst 1, 1) := by decide +kernel
theorem dX3_addSort_96 : decode cX3_addSort 96 = .ok (.iadd, 1) := by decide +kernel
theorem dX3_addSort_97 : decode cX3_addSort 97 = .ok (.putfield 90, 3) := by decide +kernel
theorem dX3_addSort_100 : decode cX3_addSort 100 = .ok (.aload_n 0, 1) := by decide +kernel
theorem dX3_addSort_101 : decode cX3_addSort 101 = .ok (.getfield 90, 3) := by decide +kernel
theorem dX3_addSort_104 : decode cX3_addSort 104 = .ok (.iconst 1, 1) := by decide +kernel
theorem dX3_addSort_105 : decode cX3_addSort 105 = .ok (.isub, 1) := by decide +kernel
theorem dX3_addSort_106 : decode cX3_addSort 106 = .ok (.ireturn, 1) := by decide +kernel
set_option maxRecDepth 20000 in
theorem ggX3_isSort_X3_isIn : GoodIn wsX3_isSort wsX3_isIn := goodIn_r _ [5] (by decide +kernel) (by decide +kernel)
set_option maxRecDepth 20000 in
theorem gX3_isSort_X3_isIn : GoodIn wsX3_isSort (va_wsS RX3 70 yX3_isIn wsX3_isIn) := goodIn_app (goodIn_of _ (by decide +kernel)) ggX3_isSort_X3_isIn
theorem dX3_isSort_0 : decode cX3_isSort 0 = .ok (.iload_n 1, 1) := by decide +kernel
theorem dX3_isSort_1 : decode cX3_isSort 1 = .ok (.iconst 0, 1) := by decide +kernel
theorem dX3_isSort_2 : decode cX3_isSort 2 = .ok (.aload_n 0, 1) := by decide +kernel
theorem dX3_isSort_3 : decode cX3_isSort 3 = .ok (.getfield 90, 3) := by decide +kernel
theorem dX3_isSort_6 : decode cX3_isSort 6 = .ok (.iconst 1, 1) := by decide +kernel
theorem dX3_isSort_7 : decode cX3_isSort 7 = .ok (.isub, 1) := by decide +kernel
theorem dX3_isSort_8 : decode cX3_isSort 8 = .ok (.invokestatic 70, 3) := by decide +kernel
theorem dX3_isSort_11 : decode cX3_isSort 11 = .ok (.ireturn, 1) := by decide +kernel
theorem dX3_isReady_0 : decode cX3_isReady 0 = .ok (.aload_n 0, 1) := by decide +kernel
theorem dX3_isReady_1 : decode cX3_isReady 1 = .ok (.getfield 20, 3) := by decide +kernel
theorem dX3_isReady_4 : decode cX3_isReady 4 = .ok (.iload_n 1, 1) := by decide +kernel
theorem dX3_isReady_5 : decode cX3_isReady 5 = .ok (.iaload, 1) := by decide +kernel
theorem dX3_isReady_6 : decode cX3_isReady 6 = .ok (.iconst (-1), 1) := by decide +kernel
theorem dX3_isReady_7 : decode cX3_isReady 7 = .ok (.if_icmp .ne 18, 3) := by decide +kernel
theorem dX3_isReady_10 : decode cX3_isReady 10 = .ok (.aload_n 0, 1) := by decide +kernel
theorem dX3_isReady_11 : decode cX3_isReady 11 = .ok (.getfield 17, 3) := by decide +kernel
theorem dX3_isReady_14 : decode cX3_isReady 14 = .ok (.iload_n 1, 1) := by decide +kernel
theorem dX3_isReady_15 : decode cX3_isReady 15 = .ok (.iaload, 1) := by decide +kernel
theorem dX3_isReady_16 : decode cX3_isReady 16 = .ok (.bipush 60, 2) := by decide +kernel
theorem dX3_isReady_18 : decode cX3_isReady 18 = .ok (.if_icmp .lt 7, 3) := by decide +kernel
theorem dX3_isReady_21 : decode cX3_isReady 21 = .ok (.iconst 1, 1) := by decide +kernel
theorem dX3_isReady_22 : decode cX3_isReady 22 = .ok (.goto 4, 3) := by decide +kernel
theorem dX3_isReady_25 : decode cX3_isReady 25 = .ok (.iconst 0, 1) := by decide +kernel
theorem dX3_isReady_26 : decode cX3_isReady 26 = .ok (.ireturn, 1) := by decide +kernel
set_option maxRecDepth 20000 in
theorem ggX3_find_X3_isReady : GoodIn wsX3_find wsX3_isReady := goodIn_r _ [15, 16, 17, 18, 19, 20, 21, 22, 23, 24, 25, 26, 27, 28, 29, 30, 31, 32, 33, 34, 35, 36, 37, 38, 39, 40, 41, 42] (by decide +kernel) (by decide +kernel)
set_option maxRecDepth 20000 in
theorem gX3_find_X3_isReady : GoodIn wsX3_find (wsV RX3 93 RX3 yX3_isReady wsX3_isReady) := goodIn_app (goodIn_of _ (by decide +kernel)) ggX3_find_X3_isReady
theorem dX3_find_0 : decode cX3_find 0 = .ok (.iconst 0, 1) := by decide +kernel
theorem dX3_find_1 : decode cX3_find 1 = .ok (.istore_n 2, 1) := by decide +kernel
theorem dX3_find_2 : decode cX3_find 2 = .ok (.iload_n 2, 1) := by decide +kernel
theorem dX3_find_3 : decode cX3_find 3 = .ok (.sipush 1505, 3) := by decide +kernel
theorem dX3_find_6 : decode cX3_find 6 = .ok (.if_icmp .ge 35, 3) := by decide +kernel
theorem dX3_find_9 : decode cX3_find 9 = .ok (.aload_n 0, 1) := by decide +kernel
theorem dX3_find_10 : decode cX3_find 10 = .ok (.getfield 61, 3) := by decide +kernel
theorem dX3_find_13 : decode cX3_find 13 = .ok (.aload_n 0, 1) := by decide +kernel
theorem dX3_find_14 : decode cX3_find 14 = .ok (.getfield 78, 3) := by decide +kernel
theorem dX3_find_17 : decode cX3_find 17 = .ok (.sipush 1505, 3) := by decide +kernel
theorem dX3_find_20 : decode cX3_find 20 = .ok (.imul, 1) := by decide +kernel
theorem dX3_find_21 : decode cX3_find 21 = .ok (.iload_n 2, 1) := by decide +kernel
theorem dX3_find_22 : decode cX3_find 22 = .ok (.iadd, 1) := by decide +kernel
theorem dX3_find_23 : decode cX3_find 23 = .ok (.iload_n 2, 1) := by decide +kernel
theorem dX3_find_24 : decode cX3_find 24 = .ok (.ifCond .ne 7, 3) := by decide +kernel
theorem dX3_find_27 : decode cX3_find 27 = .ok (.iconst 0, 1) := by decide +kernel
theorem dX3_find_28 : decode cX3_find 28 = .ok (.goto 6, 3) := by decide +kernel
theorem dX3_find_31 : decode cX3_find 31 = .ok (.sipush 1000, 3) := by decide +kernel
theorem dX3_find_34 : decode cX3_find 34 = .ok (.iastore, 1) := by decide +kernel
theorem dX3_find_35 : decode cX3_find 35 = .ok (.iinc 2 1, 3) := by decide +kernel
theorem dX3_find_38 : decode cX3_find 38 = .ok (.goto (-36), 3) := by decide +kernel
theorem dX3_find_41 : decode cX3_find 41 = .ok (.aload_n 0, 1) := by decide +kernel
theorem dX3_find_42 : decode cX3_find 42 = .ok (.getfield 78, 3) := by decide +kernel
theorem dX3_find_45 : decode cX3_find 45 = .ok (.iconst 1, 1) := by decide +kernel
theorem dX3_find_46 : decode cX3_find 46 = .ok (.isub, 1) := by decide +kernel
theorem dX3_find_47 : decode cX3_find 47 = .ok (.istore_n 2, 1) := by decide +kernel
theorem dX3_find_48 : decode cX3_find 48 = .ok (.iload_n 2, 1) := by decide +kernel
theorem dX3_find_49 : decode cX3_find 49 = .ok (.ifCond .lt 108, 3) := by decide +kernel
theorem dX3_find_52 : decode cX3_find 52 = .ok (.iconst 0, 1) := by decide +kernel
theorem dX3_find_53 : decode cX3_find 53 = .ok (.istore_n 3, 1) := by decide +kernel
theorem dX3_find_54 : decode cX3_find 54 = .ok (.iload_n 3, 1) := by decide +kernel
theorem dX3_find_55 : decode cX3_find 55 = .ok (.sipush 1505, 3) := by decide +kernel
theorem dX3_find_58 : decode cX3_find 58 = .ok (.if_icmp .ge 93, 3) := by decide +kernel
theorem dX3_find_61 : decode cX3_find 61 = .ok (.aload_n 0, 1) := by decide +kernel
theorem dX3_find_62 : decode cX3_find 62 = .ok (.getfield 61, 3) := by decide +kernel
theorem dX3_find_65 : decode cX3_find 65 = .ok (.iload_n 2, 1) := by decide +kernel
theorem dX3_find_66 : decode cX3_find 66 = .ok (.iconst 1, 1) := by decide +kernel
theorem dX3_find_67 : decode cX3_find 67 = .ok (.iadd, 1) := by decide +kernel
theorem dX3_find_68 : decode cX3_find 68 = .ok (.sipush 1505, 3) := by decide +kernel
theorem dX3_find_71 : decode cX3_find 71 = .ok (.imul, 1) := by decide +kernel
theorem dX3_find_72 : decode cX3_find 72 = .ok (.iload_n 3, 1) := by decide +kernel
theorem dX3_find_73 : decode cX3_find 73 = .ok (.iadd, 1) := by decide +kernel
theorem dX3_find_74 : decode cX3_find 74 = .ok (.iaload, 1) := by decide +kernel
theorem dX3_find_75 : decode cX3_find 75 = .ok (.istore 4, 2) := by decide +kernel
theorem dX3_find_77 : decode cX3_find 77 = .ok (.aload_n 0, 1) := by decide +kernel
theorem dX3_find_78 : decode cX3_find 78 = .ok (.iload_n 2, 1) := by decide +kernel
theorem dX3_find_79 : decode cX3_find 79 = .ok (.invokevirtual 93, 3) := by decide +kernel
theorem dX3_find_82 : decode cX3_find 82 = .ok (.ifCond .eq 39, 3) := by decide +kernel
theorem dX3_find_85 : decode cX3_find 85 = .ok (.iload_n 3, 1) := by decide +kernel
theorem dX3_find_86 : decode cX3_find 86 = .ok (.aload_n 0, 1) := by decide +kernel
theorem dX3_find_87 : decode cX3_find 87 = .ok (.getfield 13, 3) := by decide +kernel
theorem dX3_find_90 : decode cX3_find 90 = .ok (.iload_n 2, 1) := by decide +kernel
theorem dX3_find_91 : decode cX3_find 91 = .ok (.iaload, 1) := by decide +kernel
theorem dX3_find_92 : decode cX3_find 92 = .ok (.if_icmp .lt 29, 3) := by decide +kernel
theorem dX3_find_95 : decode cX3_find 95 = .ok (.aload_n 0, 1) := by decide +kernel
theorem dX3_find_96 : decode cX3_find 96 = .ok (.getfield 61, 3) := by decide +kernel
theorem dX3_find_99 : decode cX3_find 99 = .ok (.iload_n 2, 1) := by decide +kernel
theorem dX3_find_100 : decode cX3_find 100 = .ok (.iconst 1, 1) := by decide +kernel
theorem dX3_find_101 : decode cX3_find 101 = .ok (.iadd, 1) := by decide +kernel
theorem dX3_find_102 : decode cX3_find 102 = .ok (.sipush 1505, 3) := by decide +kernel
theorem dX3_find_105 : decode cX3_find 105 = .ok (.imul, 1) := by decide +kernel
theorem dX3_find_106 : decode cX3_find 106 = .ok (.iload_n 3, 1) := by decide +kernel
theorem dX3_find_107 : decode cX3_find 107 = .ok (.iadd, 1) := by decide +kernel
theorem dX3_find_108 : decode cX3_find 108 = .ok (.aload_n 0, 1) := by decide +kernel
theorem dX3_find_109 : decode cX3_find 109 = .ok (.getfield 13, 3) := by decide +kernel
theorem dX3_find_112 : decode cX3_find 112 = .ok (.iload_n 2, 1) := by decide +kernel
theorem dX3_find_113 : decode cX3_find 113 = .ok (.iaload, 1) := by decide +kernel
theorem dX3_find_114 : decode cX3_find 114 = .ok (.isub, 1) := by decide +kernel
theorem dX3_find_115 : decode cX3_find 115 = .ok (.iaload, 1) := by decide +kernel
theorem dX3_find_116 : decode cX3_find 116 = .ok (.iconst 1, 1) := by decide +kernel
theorem dX3_find_117 : decode cX3_find 117 = .ok (.iadd, 1) := by decide +kernel
theorem dX3_find_118 : decode cX3_find 118 = .ok (.goto 6, 3) := by decide +kernel
theorem dX3_find_121 : decode cX3_find 121 = .ok (.sipush 1000, 3) := by decide +kernel
theorem dX3_find_124 : decode cX3_find 124 = .ok (.istore 5, 2) := by decide +kernel
theorem dX3_find_126 : decode cX3_find 126 = .ok (.aload_n 0, 1) := by decide +kernel
theorem dX3_find_127 : decode cX3_find 127 = .ok (.getfield 61, 3) := by decide +kernel
theorem dX3_find_130 : decode cX3_find 130 = .ok (.iload_n 2, 1) := by decide +kernel
theorem dX3_find_131 : decode cX3_find 131 = .ok (.sipush 1505, 3) := by decide +kernel
theorem dX3_find_134 : decode cX3_find 134 = .ok (.imul, 1) := by decide +kernel
theorem dX3_find_135 : decode cX3_find 135 = .ok (.iload_n 3, 1) := by decide +kernel
theorem dX3_find_136 : decode cX3_find 136 = .ok (.iadd, 1) := by decide +kernel
theorem dX3_find_137 : decode cX3_find 137 = .ok (.iload 4, 2) := by decide +kernel
theorem dX3_find_139 : decode cX3_find 139 = .ok (.iload 5, 2) := by decide +kernel
theorem dX3_find_141 : decode cX3_find 141 = .ok (.invokestatic 96, 3) := by decide +kernel
theorem dX3_find_144 : decode cX3_find 144 = .ok (.iastore, 1) := by decide +kernel
theorem dX3_find_145 : decode cX3_find 145 = .ok (.iinc 3 1, 3) := by decide +kernel
theorem dX3_find_148 : decode cX3_find 148 = .ok (.goto (-94), 3) := by decide +kernel
theorem dX3_find_151 : decode cX3_find 151 = .ok (.iinc 2 (-1), 3) := by decide +kernel
theorem dX3_find_154 : decode cX3_find 154 = .ok (.goto (-106), 3) := by decide +kernel
theorem dX3_find_157 : decode cX3_find 157 = .ok (.aload_n 0, 1) := by decide +kernel
theorem dX3_find_158 : decode cX3_find 158 = .ok (.iconst 0, 1) := by decide +kernel
theorem dX3_find_159 : decode cX3_find 159 = .ok (.putfield 101, 3) := by decide +kernel
theorem dX3_find_162 : decode cX3_find 162 = .ok (.iconst (-1), 1) := by decide +kernel
theorem dX3_find_163 : decode cX3_find 163 = .ok (.istore_n 2, 1) := by decide +kernel
theorem dX3_find_164 : decode cX3_find 164 = .ok (.aload_n 0, 1) := by decide +kernel
theorem dX3_find_165 : decode cX3_find 165 = .ok (.getfield 23, 3) := by decide +kernel
theorem dX3_find_168 : decode cX3_find 168 = .ok (.iload_n 1, 1) := by decide +kernel
theorem dX3_find_169 : decode cX3_find 169 = .ok (.iaload, 1) := by decide +kernel
theorem dX3_find_170 : decode cX3_find 170 = .ok (.istore_n 3, 1) := by decide +kernel
theorem dX3_find_171 : decode cX3_find 171 = .ok (.iload_n 3, 1) := by decide +kernel
theorem dX3_find_172 : decode cX3_find 172 = .ok (.aload_n 0, 1) := by decide +kernel
theorem dX3_find_173 : decode cX3_find 173 = .ok (.getfield 23, 3) := by decide +kernel
theorem dX3_find_176 : decode cX3_find 176 = .ok (.iload_n 1, 1) := by decide +kernel
theorem dX3_find_177 : decode cX3_find 177 = .ok (.iaload, 1) := by decide +kernel
theorem dX3_find_178 : decode cX3_find 178 = .ok (.iconst 4, 1) := by decide +kernel
theorem dX3_find_179 : decode cX3_find 179 = .ok (.iadd, 1) := by decide +kernel
theorem dX3_find_180 : decode cX3_find 180 = .ok (.if_icmp .gt 43, 3) := by decide +kernel
theorem dX3_find_183 : decode cX3_find 183 = .ok (.aload_n 0, 1) := by decide +kernel
theorem dX3_find_184 : decode cX3_find 184 = .ok (.getfield 61, 3) := by decide +kernel
theorem dX3_find_187 : decode cX3_find 187 = .ok (.iload_n 3, 1) := by decide +kernel
theorem dX3_find_188 : decode cX3_find 188 = .ok (.iaload, 1) := by decide +kernel
theorem dX3_find_189 : decode cX3_find 189 = .ok (.sipush 1000, 3) := by decide +kernel
theorem dX3_find_192 : decode cX3_find 192 = .ok (.if_icmp .ge 25, 3) := by decide +kernel
theorem dX3_find_195 : decode cX3_find 195 = .ok (.iload_n 2, 1) := by decide +kernel
theorem dX3_find_196 : decode cX3_find 196 = .ok (.iconst (-1), 1) := by decide +kernel
theorem dX3_find_197 : decode cX3_find 197 = .ok (.if_icmp .eq 18, 3) := by decide +kernel
theorem dX3_find_200 : decode cX3_find 200 = .ok (.aload_n 0, 1) := by decide +kernel
theorem dX3_find_201 : decode cX3_find 201 = .ok (.getfield 61, 3) := by decide +kernel
theorem dX3_find_204 : decode cX3_find 204 = .ok (.iload_n 3, 1) := by decide +kernel
theorem dX3_find_205 : decode cX3_find 205 = .ok (.iaload, 1) := by decide +kernel
theorem dX3_find_206 : decode cX3_find 206 = .ok (.aload_n 0, 1) := by decide +kernel
theorem dX3_find_207 : decode cX3_find 207 = .ok (.getfield 61, 3) := by decide +kernel
theorem dX3_find_210 : decode cX3_find 210 = .ok (.iload_n 2, 1) := by decide +kernel
theorem dX3_find_211 : decode cX3_find 211 = .ok (.iaload, 1) := by decide +kernel
theorem dX3_find_212 : decode cX3_find 212 = .ok (.if_icmp .ge 5, 3) := by decide +kernel
theorem dX3_find_215 : decode cX3_find 215 = .ok (.iload_n 3, 1) := by decide +kernel
theorem dX3_find_216 : decode cX3_find 216 = .ok (.istore_n 2, 1) := by decide +kernel
theorem dX3_find_217 : decode cX3_find 217 = .ok (.iinc 3 1, 3) := by decide +kernel
theorem dX3_find_220 : decode cX3_find 220 = .ok (.goto (-49), 3) := by decide +kernel
theorem dX3_find_223 : decode cX3_find 223 = .ok (.iload_n 2, 1) := by decide +kernel
theorem dX3_find_224 : decode cX3_find 224 = .ok (.iconst (-1), 1) := by decide +kernel
theorem dX3_find_225 : decode cX3_find 225 = .ok (.if_icmp .ne 5, 3) := by decide +kernel
theorem dX3_find_228 : decode cX3_find 228 = .ok (.iconst 0, 1) := by decide +kernel
theorem dX3_find_229 : decode cX3_find 229 = .ok (.ireturn, 1) := by decide +kernel
theorem dX3_find_230 : decode cX3_find 230 = .ok (.iconst 0, 1) := by decide +kernel
theorem dX3_find_231 : decode cX3_find 231 = .ok (.istore_n 3, 1) := by decide +kernel
theorem dX3_find_232 : decode cX3_find 232 = .ok (.iload_n 3, 1) := by decide +kernel
theorem dX3_find_233 : decode cX3_find 233 = .ok (.aload_n 0, 1) := by decide +kernel
theorem dX3_find_234 : decode cX3_find 234 = .ok (.getfield 78, 3) := by decide +kernel
theorem dX3_find_237 : decode cX3_find 237 = .ok (.if_icmp .ge 101, 3) := by decide +kernel
theorem dX3_find_240 : decode cX3_find 240 = .ok (.iload_n 2, 1) := by decide +kernel
theorem dX3_find_241 : decode cX3_find 241 = .ok (.ifCond .le 97, 3) := by decide +kernel
theorem dX3_find_244 : decode cX3_find 244 = .ok (.aload_n 0, 1) := by decide +kernel
theorem dX3_find_245 : decode cX3_find 245 = .ok (.iload_n 3, 1) := by decide +kernel
theorem dX3_find_246 : decode cX3_find 246 = .ok (.invokevirtual 93, 3) := by decide +kernel
theorem dX3_find_249 : decode cX3_find 249 = .ok (.ifCond .eq 83, 3) := by decide +kernel
theorem dX3_find_252 : decode cX3_find 252 = .ok (.iload_n 2, 1) := by decide +kernel
theorem dX3_find_253 : decode cX3_find 253 = .ok (.aload_n 0, 1) := by decide +kernel
theorem dX3_find_254 : decode cX3_find 254 = .ok (.getfield 13, 3) := by decide +kernel
theorem dX3_find_257 : decode cX3_find 257 = .ok (.iload_n 3, 1) := by decide +kernel
theorem dX3_find_258 : decode cX3_find 258 = .ok (.iaload, 1) := by decide +kernel
theorem dX3_find_259 : decode cX3_find 259 = .ok (.if_icmp .lt 73, 3) := by decide +kernel
theorem dX3_find_262 : decode cX3_find 262 = .ok (.aload_n 0, 1) := by decide +kernel
theorem dX3_find_263 : decode cX3_find 263 = .ok (.getfield 61, 3) := by decide +kernel
theorem dX3_find_266 : decode cX3_find 266 = .ok (.iload_n 3, 1) := by decide +kernel
theorem dX3_find_267 : decode cX3_find 267 = .ok (.iconst 1, 1) := by decide +kernel
theorem dX3_find_268 : decode cX3_find 268 = .ok (.iadd, 1) := by decide +kernel
theorem dX3_find_269 : decode cX3_find 269 = .ok (.sipush 1505, 3) := by decide +kernel
theorem dX3_find_272 : decode cX3_find 272 = .ok (.imul, 1) := by decide +kernel
theorem dX3_find_273 : decode cX3_find 273 = .ok (.iload_n 2, 1) := by decide +kernel
theorem dX3_find_274 : decode cX3_find 274 = .ok (.iadd, 1) := by decide +kernel
theorem dX3_find_275 : decode cX3_find 275 = .ok (.aload_n 0, 1) := by decide +kernel
theorem dX3_find_276 : decode cX3_find 276 = .ok (.getfield 13, 3) := by decide +kernel
theorem dX3_find_279 : decode cX3_find 279 = .ok (.iload_n 3, 1) := by decide +kernel
theorem dX3_find_280 : decode cX3_find 280 = .ok (.iaload, 1) := by decide +kernel
theorem dX3_find_281 : decode cX3_find 281 = .ok (.isub, 1) := by decide +kernel
theorem dX3_find_282 : decode cX3_find 282 = .ok (.iaload, 1) := by decide +kernel
theorem dX3_find_283 : decode cX3_find 283 = .ok (.iconst 1, 1) := by decide +kernel
theorem dX3_find_284 : decode cX3_find 284 = .ok (.iadd, 1) := by decide +kernel
theorem dX3_find_285 : decode cX3_find 285 = .ok (.aload_n 0, 1) := by decide +kernel
theorem dX3_find_286 : decode cX3_find 286 = .ok (.getfield 61, 3) := by decide +kernel
theorem dX3_find_289 : decode cX3_find 289 = .ok (.iload_n 3, 1) := by decide +kernel
theorem dX3_find_290 : decode cX3_find 290 = .ok (.sipush 1505, 3) := by decide +kernel
theorem dX3_find_293 : decode cX3_find 293 = .ok (.imul, 1) := by decide +kernel
theorem dX3_find_294 : decode cX3_find 294 = .ok (.iload_n 2, 1) := by decide +kernel
theorem dX3_find_295 : decode cX3_find 295 = .ok (.iadd, 1) := by decide +kernel
theorem dX3_find_296 : decode cX3_find 296 = .ok (.iaload, 1) := by decide +kernel
theorem dX3_find_297 : decode cX3_find 297 = .ok (.if_icmp .eq 6, 3) := by decide +kernel
theorem dX3_find_300 : decode cX3_find 300 = .ok (.goto 32, 3) := by decide +kernel
theorem dX3_find_303 : decode cX3_find 303 = .ok (.aload_n 0, 1) := by decide +kernel
theorem dX3_find_304 : decode cX3_find 304 = .ok (.getfield 64, 3) := by decide +kernel
theorem dX3_find_307 : decode cX3_find 307 = .ok (.aload_n 0, 1) := by decide +kernel
theorem dX3_find_308 : decode cX3_find 308 = .ok (.getfield 101, 3) := by decide +kernel
theorem dX3_find_311 : decode cX3_find 311 = .ok (.iload_n 3, 1) := by decide +kernel
theorem dX3_find_312 : decode cX3_find 312 = .ok (.iastore, 1) := by decide +kernel
theorem dX3_find_313 : decode cX3_find 313 = .ok (.aload_n 0, 1) := by decide +kernel
theorem dX3_find_314 : decode cX3_find 314 = .ok (.dup, 1) := by decide +kernel
theorem dX3_find_315 : decode cX3_find 315 = .ok (.getfield 101, 3) := by decide +kernel
theorem dX3_find_318 : decode cX3_find 318 = .ok (.iconst 1, 1) := by decide +kernel
theorem dX3_find_319 : decode cX3_find 319 = .ok (.iadd, 1) := by decide +kernel
theorem dX3_find_320 : decode cX3_find 320 = .ok (.putfield 101, 3) := by decide +kernel
theorem dX3_find_323 : decode cX3_find 323 = .ok (.iload_n 2, 1) := by decide +kernel
theorem dX3_find_324 : decode cX3_find 324 = .ok (.aload_n 0, 1) := by decide +kernel
theorem dX3_find_325 : decode cX3_find 325 = .ok (.getfield 13, 3) := by decide +kernel
theorem dX3_find_328 : decode cX3_find 328 = .ok (.iload_n 3, 1) := by decide +kernel
theorem dX3_find_329 : decode cX3_find 329 = .ok (.iaload, 1) := by decide +kernel
theorem dX3_find_330 : decode cX3_find 330 = .ok (.isub, 1) := by decide +kernel
theorem dX3_find_331 : decode cX3_find 331 = .ok (.istore_n 2, 1) := by decide +kernel
theorem dX3_find_332 : decode cX3_find 332 = .ok (.iinc 3 1, 3) := by decide +kernel
theorem dX3_find_335 : decode cX3_find 335 = .ok (.goto (-103), 3) := by decide +kernel
theorem dX3_find_338 : decode cX3_find 338 = .ok (.iconst 1, 1) := by decide +kernel
theorem dX3_find_339 : decode cX3_find 339 = .ok (.ireturn, 1) := by decide +kernel
set_option maxRecDepth 20000 in
theorem ggX3_choose_X3_isSort : GoodIn wsX3_choose wsX3_isSort := goodIn_r _ [8, 9, 10, 11, 7, 12, 35, 36, 37, 38, 39, 40, 41, 42, 43, 44, 45, 46, 47, 48, 49, 50, 51, 52, 53, 54, 55, 56, 57, 58, 59] (by decide +kernel) (by decide +kernel)
set_option maxRecDepth 20000 in
theorem gX3_choose_X3_isSort : GoodIn wsX3_choose (wsV RX3 104 RX3 yX3_isSort wsX3_isSort) := goodIn_app (goodIn_of _ (by decide +kernel)) ggX3_choose_X3_isSort
set_option maxRecDepth 20000 in
theorem ggX3_choose_X3_isIn : GoodIn wsX3_choose wsX3_isIn := goodIn_r _ [12] (by decide +kernel) (by decide +kernel)
set_option maxRecDepth 20000 in
theorem gX3_choose_X3_isIn : GoodIn wsX3_choose (va_wsS RX3 70 yX3_isIn wsX3_isIn) := goodIn_app (goodIn_of _ (by decide +kernel)) ggX3_choose_X3_isIn
set_option maxRecDepth 20000 in
theorem ggX3_choose_X3_no : GoodIn wsX3_choose wsX3_no := goodIn_r _ [16, 1, 35, 36, 37, 38, 39, 40, 41, 42, 43, 44, 45, 46, 47, 48, 49, 50, 51, 52, 53, 54, 55, 56, 57, 58, 59] (by decide +kernel) (by decide +kernel)
set_option maxRecDepth 20000 in
theorem gX3_choose_X3_no : GoodIn wsX3_choose (wsV RX3 74 RX3 yX3_no wsX3_no) := goodIn_app (goodIn_of _ (by decide +kernel)) ggX3_choose_X3_no
set_option maxRecDepth 20000 in
theorem ggX3_choose_X3_find : GoodIn wsX3_choose wsX3_find := goodIn_r _ [20, 21, 22, 23, 24, 25, 26, 27, 2, 28, 3, 29, 30, 31, 7, 32, 33, 34, 35, 36, 37, 38, 39, 40, 41, 42, 43, 44, 45, 46, 47, 48, 49, 50, 51, 52, 53, 54, 55, 56, 57, 58, 59] (by decide +kernel) (by decide +kernel)
set_option maxRecDepth 20000 in
theorem gX3_choose_X3_find : GoodIn wsX3_choose (wsV RX3 107 RX3 yX3_find wsX3_find) := goodIn_app (goodIn_of _ (by decide +kernel)) ggX3_choose_X3_find
theorem dX3_choose_0 : decode cX3_choose 0 = .ok (.aload_n 0, 1) := by decide +kernel
theorem dX3_choose_1 : decode cX3_choose 1 = .ok (.iconst 0, 1) := by decide +kernel
theorem dX3_choose_2 : decode cX3_choose 2 = .ok (.putfield 67, 3) := by decide +kernel
theorem dX3_choose_5 : decode cX3_choose 5 = .ok (.aload_n 0, 1) := by decide +kernel
theorem dX3_choose_6 : decode cX3_choose 6 = .ok (.iload_n 1, 1) := by decide +kernel
theorem dX3_choose_7 : decode cX3_choose 7 = .ok (.invokevirtual 104, 3) := by decide +kernel
theorem dX3_choose_10 : decode cX3_choose 10 = .ok (.ifCond .eq 13, 3) := by decide +kernel
theorem dX3_choose_13 : decode cX3_choose 13 = .ok (.iload_n 2, 1) := by decide +kernel
theorem dX3_choose_14 : decode cX3_choose 14 = .ok (.iconst 0, 1) := by decide +kernel
theorem dX3_choose_15 : decode cX3_choose 15 = .ok (.bipush 59, 2) := by decide +kernel
theorem dX3_choose_17 : decode cX3_choose 17 = .ok (.invokestatic 70, 3) := by decide +kernel
theorem dX3_choose_20 : decode cX3_choose 20 = .ok (.ifCond .ne 9, 3) := by decide +kernel
theorem dX3_choose_23 : decode cX3_choose 23 = .ok (.aload_n 0, 1) := by decide +kernel
theorem dX3_choose_24 : decode cX3_choose 24 = .ok (.iconst 1, 1) := by decide +kernel
theorem dX3_choose_25 : decode cX3_choose 25 = .ok (.invokevirtual 74, 3) := by decide +kernel
theorem dX3_choose_28 : decode cX3_choose 28 = .ok (.ireturn, 1) := by decide +kernel
theorem dX3_choose_29 : decode cX3_choose 29 = .ok (.aload_n 0, 1) := by decide +kernel
theorem dX3_choose_30 : decode cX3_choose 30 = .ok (.iload_n 1, 1) := by decide +kernel
theorem dX3_choose_31 : decode cX3_choose 31 = .ok (.invokevirtual 107, 3) := by decide +kernel
theorem dX3_choose_34 : decode cX3_choose 34 = .ok (.ifCond .eq 20, 3) := by decide +kernel
theorem dX3_choose_37 : decode cX3_choose 37 = .ok (.iload_n 2, 1) := by decide +kernel
theorem dX3_choose_38 : decode cX3_choose 38 = .ok (.aload_n 0, 1) := by decide +kernel
theorem dX3_choose_39 : decode cX3_choose 39 = .ok (.getfield 101, 3) := by decide +kernel
theorem dX3_choose_42 : decode cX3_choose 42 = .ok (.if_icmp .ge 12, 3) := by decide +kernel
theorem dX3_choose_45 : decode cX3_choose 45 = .ok (.aload_n 0, 1) := by decide +kernel
theorem dX3_choose_46 : decode cX3_choose 46 = .ok (.getfield 64, 3) := by decide +kernel
theorem dX3_choose_49 : decode cX3_choose 49 = .ok (.iload_n 2, 1) := by decide +kernel
theorem dX3_choose_50 : decode cX3_choose 50 = .ok (.iaload, 1) := by decide +kernel
theorem dX3_choose_51 : decode cX3_choose 51 = .ok (.goto 4, 3) := by decide +kernel
theorem dX3_choose_54 : decode cX3_choose 54 = .ok (.iconst (-1), 1) := by decide +kernel
theorem dX3_choose_55 : decode cX3_choose 55 = .ok (.ireturn, 1) := by decide +kernel
set_option maxRecDepth 20000 in
theorem ggX3_raise_X3_isSort : GoodIn wsX3_raise wsX3_isSort := goodIn_r _ [20, 21, 22, 23, 19, 24, 45, 46, 47, 48, 49, 50, 51, 52, 53, 54, 55, 56, 57, 58, 59, 60, 61, 62, 63, 64, 65, 66, 67, 68, 69] (by decide +kernel) (by decide +kernel)
set_option maxRecDepth 20000 in
theorem gX3_raise_X3_isSort : GoodIn wsX3_raise (wsV RX3 104 RX3 yX3_isSort wsX3_isSort) := goodIn_app (goodIn_of _ (by decide +kernel)) ggX3_raise_X3_isSort
set_option maxRecDepth 20000 in
theorem ggX3_raise_X3_no : GoodIn wsX3_raise wsX3_no := goodIn_r _ [28, 1, 45, 46, 47, 48, 49, 50, 51, 52, 53, 54, 55, 56, 57, 58, 59, 60, 61, 62, 63, 64, 65, 66, 67, 68, 69] (by decide +kernel) (by decide +kernel)
set_option maxRecDepth 20000 in
theorem gX3_raise_X3_no : GoodIn wsX3_raise (wsV RX3 74 RX3 yX3_no wsX3_no) := goodIn_app (goodIn_of _ (by decide +kernel)) ggX3_raise_X3_no
set_option maxRecDepth 20000 in
theorem ggX3_raise_X3_find : GoodIn wsX3_raise wsX3_find := goodIn_r _ [32, 33, 34, 35, 36, 37, 38, 39, 6, 40, 8, 41, 42, 43, 19, 44, 7, 9, 45, 46, 47, 48, 49, 50, 51, 52, 53, 54, 55, 56, 57, 58, 59, 60, 61, 62, 63, 64, 65, 66, 67, 68, 69] (by decide +kernel) (by decide +kernel)
set_option maxRecDepth 20000 in
theorem gX3_raise_X3_find : GoodIn wsX3_raise (wsV RX3 107 RX3 yX3_find wsX3_find) := goodIn_app (goodIn_of _ (by decide +kernel)) ggX3_raise_X3_find
theorem dX3_raise_0 : decode cX3_raise 0 = .ok (.aload_n 0, 1) := by decide +kernel
theorem dX3_raise_1 : decode cX3_raise 1 = .ok (.iconst 0, 1) := by decide +kernel
theorem dX3_raise_2 : decode cX3_raise 2 = .ok (.putfield 67, 3) := by decide +kernel
theorem dX3_raise_5 : decode cX3_raise 5 = .ok (.aload_n 0, 1) := by decide +kernel
theorem dX3_raise_6 : decode cX3_raise 6 = .ok (.iload_n 1, 1) := by decide +kernel
theorem dX3_raise_7 : decode cX3_raise 7 = .ok (.invokevirtual 104, 3) := by decide +kernel
theorem dX3_raise_10 : decode cX3_raise 10 = .ok (.ifCond .ne 9, 3) := by decide +kernel
theorem dX3_raise_13 : decode cX3_raise 13 = .ok (.aload_n 0, 1) := by decide +kernel
theorem dX3_raise_14 : decode cX3_raise 14 = .ok (.iconst 1, 1) := by decide +kernel
theorem dX3_raise_15 : decode cX3_raise 15 = .ok (.invokevirtual 74, 3) := by decide +kernel
theorem dX3_raise_18 : decode cX3_raise 18 = .ok (.ireturn, 1) := by decide +kernel
theorem dX3_raise_19 : decode cX3_raise 19 = .ok (.aload_n 0, 1) := by decide +kernel
theorem dX3_raise_20 : decode cX3_raise 20 = .ok (.getfield 110, 3) := by decide +kernel
theorem dX3_raise_23 : decode cX3_raise 23 = .ok (.bipush 12, 2) := by decide +kernel
theorem dX3_raise_25 : decode cX3_raise 25 = .ok (.if_icmp .eq 11, 3) := by decide +kernel
theorem dX3_raise_28 : decode cX3_raise 28 = .ok (.aload_n 0, 1) := by decide +kernel
theorem dX3_raise_29 : decode cX3_raise 29 = .ok (.iload_n 1, 1) := by decide +kernel
theorem dX3_raise_30 : decode cX3_raise 30 = .ok (.invokevirtual 107, 3) := by decide +kernel
theorem dX3_raise_33 : decode cX3_raise 33 = .ok (.ifCond .ne 9, 3) := by decide +kernel
theorem dX3_raise_36 : decode cX3_raise 36 = .ok (.aload_n 0, 1) := by decide +kernel
theorem dX3_raise_37 : decode cX3_raise 37 = .ok (.iconst 2, 1) := by decide +kernel
theorem dX3_raise_38 : decode cX3_raise 38 = .ok (.invokevirtual 74, 3) := by decide +kernel
theorem dX3_raise_41 : decode cX3_raise 41 = .ok (.ireturn, 1) := by decide +kernel
theorem dX3_raise_42 : decode cX3_raise 42 = .ok (.aload_n 0, 1) := by decide +kernel
theorem dX3_raise_43 : decode cX3_raise 43 = .ok (.getfield 110, 3) := by decide +kernel
theorem dX3_raise_46 : decode cX3_raise 46 = .ok (.istore_n 2, 1) := by decide +kernel
theorem dX3_raise_47 : decode cX3_raise 47 = .ok (.aload_n 0, 1) := by decide +kernel
theorem dX3_raise_48 : decode cX3_raise 48 = .ok (.getfield 32, 3) := by decide +kernel
theorem dX3_raise_51 : decode cX3_raise 51 = .ok (.iload_n 2, 1) := by decide +kernel
theorem dX3_raise_52 : decode cX3_raise 52 = .ok (.iload_n 1, 1) := by decide +kernel
theorem dX3_raise_53 : decode cX3_raise 53 = .ok (.iastore, 1) := by decide +kernel
theorem dX3_raise_54 : decode cX3_raise 54 = .ok (.aload_n 0, 1) := by decide +kernel
theorem dX3_raise_55 : decode cX3_raise 55 = .ok (.getfield 35, 3) := by decide +kernel
theorem dX3_raise_58 : decode cX3_raise 58 = .ok (.iload_n 2, 1) := by decide +kernel
theorem dX3_raise_59 : decode cX3_raise 59 = .ok (.iconst 1, 1) := by decide +kernel
theorem dX3_raise_60 : decode cX3_raise 60 = .ok (.bastore, 1) := by decide +kernel
theorem dX3_raise_61 : decode cX3_raise 61 = .ok (.aload_n 0, 1) := by decide +kernel
theorem dX3_raise_62 : decode cX3_raise 62 = .ok (.getfield 39, 3) := by decide +kernel
theorem dX3_raise_65 : decode cX3_raise 65 = .ok (.iload_n 2, 1) := by decide +kernel
theorem dX3_raise_66 : decode cX3_raise 66 = .ok (.iconst 0, 1) := by decide +kernel
theorem dX3_raise_67 : decode cX3_raise 67 = .ok (.iastore, 1) := by decide +kernel
theorem dX3_raise_68 : decode cX3_raise 68 = .ok (.iconst 0, 1) := by decide +kernel
theorem dX3_raise_69 : decode cX3_raise 69 = .ok (.istore_n 3, 1) := by decide +kernel
theorem dX3_raise_70 : decode cX3_raise 70 = .ok (.iload_n 3, 1) := by decide +kernel
theorem dX3_raise_71 : decode cX3_raise 71 = .ok (.aload_n 0, 1) := by decide +kernel
theorem dX3_raise_72 : decode cX3_raise 72 = .ok (.getfield 101, 3) := by decide +kernel
theorem dX3_raise_75 : decode cX3_raise 75 = .ok (.if_icmp .ge 51, 3) := by decide +kernel
theorem dX3_raise_78 : decode cX3_raise 78 = .ok (.aload_n 0, 1) := by decide +kernel
theorem dX3_raise_79 : decode cX3_raise 79 = .ok (.getfield 20, 3) := by decide +kernel
theorem dX3_raise_82 : decode cX3_raise 82 = .ok (.aload_n 0, 1) := by decide +kernel
theorem dX3_raise_83 : decode cX3_raise 83 = .ok (.getfield 64, 3) := by decide +kernel
theorem dX3_raise_86 : decode cX3_raise 86 = .ok (.iload_n 3, 1) := by decide +kernel
theorem dX3_raise_87 : decode cX3_raise 87 = .ok (.iaload, 1) := by decide +kernel
theorem dX3_raise_88 : decode cX3_raise 88 = .ok (.iload_n 2, 1) := by decide +kernel
theorem dX3_raise_89 : decode cX3_raise 89 = .ok (.iastore, 1) := by decide +kernel
theorem dX3_raise_90 : decode cX3_raise 90 = .ok (.aload_n 0, 1) := by decide +kernel
theorem dX3_raise_91 : decode cX3_raise 91 = .ok (.getfield 39, 3) := by decide +kernel
theorem dX3_raise_94 : decode cX3_raise 94 = .ok (.iload_n 2, 1) := by decide +kernel
theorem dX3_raise_95 : decode cX3_raise 95 = .ok (.dup2, 1) := by decide +kernel
theorem dX3_raise_96 : decode cX3_raise 96 = .ok (.iaload, 1) := by decide +kernel
theorem dX3_raise_97 : decode cX3_raise 97 = .ok (.aload_n 0, 1) := by decide +kernel
theorem dX3_raise_98 : decode cX3_raise 98 = .ok (.getfield 17, 3) := by decide +kernel
theorem dX3_raise_101 : decode cX3_raise 101 = .ok (.aload_n 0, 1) := by decide +kernel
theorem dX3_raise_102 : decode cX3_raise 102 = .ok (.getfield 64, 3) := by decide +kernel
theorem dX3_raise_105 : decode cX3_raise 105 = .ok (.iload_n 3, 1) := by decide +kernel
theorem dX3_raise_106 : decode cX3_raise 106 = .ok (.iaload, 1) := by decide +kernel
theorem dX3_raise_107 : decode cX3_raise 107 = .ok (.iaload, 1) := by decide +kernel
theorem dX3_raise_108 : decode cX3_raise 108 = .ok (.bipush 70, 2) := by decide +kernel
theorem dX3_raise_110 : decode cX3_raise 110 = .ok (.if_icmp .ge 7, 3) := by decide +kernel
theorem dX3_raise_113 : decode cX3_raise 113 = .ok (.iconst 1, 1) := by decide +kernel
theorem dX3_raise_114 : decode cX3_raise 114 = .ok (.goto 4, 3) := by decide +kernel
theorem dX3_raise_117 : decode cX3_raise 117 = .ok (.iconst 0, 1) := by decide +kernel
theorem dX3_raise_118 : decode cX3_raise 118 = .ok (.iadd, 1) := by decide +kernel
theorem dX3_raise_119 : decode cX3_raise 119 = .ok (.iastore, 1) := by decide +kernel
theorem dX3_raise_120 : decode cX3_raise 120 = .ok (.iinc 3 1, 3) := by decide +kernel
theorem dX3_raise_123 : decode cX3_raise 123 = .ok (.goto (-53), 3) := by decide +kernel
theorem dX3_raise_126 : decode cX3_raise 126 = .ok (.iconst 0, 1) := by decide +kernel
theorem dX3_raise_127 : decode cX3_raise 127 = .ok (.istore_n 3, 1) := by decide +kernel
theorem dX3_raise_128 : decode cX3_raise 128 = .ok (.iload_n 3, 1) := by decide +kernel
theorem dX3_raise_129 : decode cX3_raise 129 = .ok (.bipush 8, 2) := by decide +kernel
theorem dX3_raise_131 : decode cX3_raise 131 = .ok (.if_icmp .ge 35, 3) := by decide +kernel
theorem dX3_raise_134 : decode cX3_raise 134 = .ok (.aload_n 0, 1) := by decide +kernel
theorem dX3_raise_135 : decode cX3_raise 135 = .ok (.getfield 42, 3) := by decide +kernel
theorem dX3_raise_138 : decode cX3_raise 138 = .ok (.bipush 8, 2) := by decide +kernel
theorem dX3_raise_140 : decode cX3_raise 140 = .ok (.iload_n 2, 1) := by decide +kernel
theorem dX3_raise_141 : decode cX3_raise 141 = .ok (.imul, 1) := by decide +kernel
theorem dX3_raise_142 : decode cX3_raise 142 = .ok (.iload_n 3, 1) := by decide +kernel
theorem dX3_raise_143 : decode cX3_raise 143 = .ok (.iadd, 1) := by decide +kernel
theorem dX3_raise_144 : decode cX3_raise 144 = .ok (.iload_n 3, 1) := by decide +kernel
theorem dX3_raise_145 : decode cX3_raise 145 = .ok (.aload_n 0, 1) := by decide +kernel
theorem dX3_raise_146 : decode cX3_raise 146 = .ok (.getfield 29, 3) := by decide +kernel
theorem dX3_raise_149 : decode cX3_raise 149 = .ok (.iload_n 1, 1) := by decide +kernel
theorem dX3_raise_150 : decode cX3_raise 150 = .ok (.iaload, 1) := by decide +kernel
theorem dX3_raise_151 : decode cX3_raise 151 = .ok (.if_icmp .ge 7, 3) := by decide +kernel
theorem dX3_raise_154 : decode cX3_raise 154 = .ok (.iconst 3, 1) := by decide +kernel
theorem dX3_raise_155 : decode cX3_raise 155 = .ok (.goto 4, 3) := by decide +kernel
theorem dX3_raise_158 : decode cX3_raise 158 = .ok (.iconst 0, 1) := by decide +kernel
theorem dX3_raise_159 : decode cX3_raise 159 = .ok (.iastore, 1) := by decide +kernel
theorem dX3_raise_160 : decode cX3_raise 160 = .ok (.iinc 3 1, 3) := by decide +kernel
theorem dX3_raise_163 : decode cX3_raise 163 = .ok (.goto (-35), 3) := by decide +kernel
theorem dX3_raise_166 : decode cX3_raise 166 = .ok (.aload_n 0, 1) := by decide +kernel
theorem dX3_raise_167 : decode cX3_raise 167 = .ok (.getfield 45, 3) := by decide +kernel
theorem dX3_raise_170 : decode cX3_raise 170 = .ok (.iload_n 2, 1) := by decide +kernel
theorem dX3_raise_171 : decode cX3_raise 171 = .ok (.iconst 0, 1) := by decide +kernel
theorem dX3_raise_172 : decode cX3_raise 172 = .ok (.iastore, 1) := by decide +kernel
theorem dX3_raise_173 : decode cX3_raise 173 = .ok (.aload_n 0, 1) := by decide +kernel
theorem dX3_raise_174 : decode cX3_raise 174 = .ok (.getfield 48, 3) := by decide +kernel
theorem dX3_raise_177 : decode cX3_raise 177 = .ok (.iload_n 2, 1) := by decide +kernel
theorem dX3_raise_178 : decode cX3_raise 178 = .ok (.iconst 0, 1) := by decide +kernel
theorem dX3_raise_179 : decode cX3_raise 179 = .ok (.iastore, 1) := by decide +kernel
theorem dX3_raise_180 : decode cX3_raise 180 = .ok (.aload_n 0, 1) := by decide +kernel
theorem dX3_raise_181 : decode cX3_raise 181 = .ok (.getfield 51, 3) := by decide +kernel
theorem dX3_raise_184 : decode cX3_raise 184 = .ok (.iload_n 2, 1) := by decide +kernel
theorem dX3_raise_185 : decode cX3_raise 185 = .ok (.iconst 0, 1) := by decide +kernel
theorem dX3_raise_186 : decode cX3_raise 186 = .ok (.iastore, 1) := by decide +kernel
theorem dX3_raise_187 : decode cX3_raise 187 = .ok (.aload_n 0, 1) := by decide +kernel
theorem dX3_raise_188 : decode cX3_raise 188 = .ok (.getfield 57, 3) := by decide +kernel
theorem dX3_raise_191 : decode cX3_raise 191 = .ok (.iload_n 2, 1) := by decide +kernel
theorem dX3_raise_192 : decode cX3_raise 192 = .ok (.iconst 0, 1) := by decide +kernel
theorem dX3_raise_193 : decode cX3_raise 193 = .ok (.iastore, 1) := by decide +kernel
theorem dX3_raise_194 : decode cX3_raise 194 = .ok (.aload_n 0, 1) := by decide +kernel
theorem dX3_raise_195 : decode cX3_raise 195 = .ok (.dup, 1) := by decide +kernel
theorem dX3_raise_196 : decode cX3_raise 196 = .ok (.getfield 110, 3) := by decide +kernel
theorem dX3_raise_199 : decode cX3_raise 199 = .ok (.iconst 1, 1) := by decide +kernel
theorem dX3_raise_200 : decode cX3_raise 200 = .ok (.iadd, 1) := by decide +kernel
theorem dX3_raise_201 : decode cX3_raise 201 = .ok (.putfield 110, 3) := by decide +kernel
theorem dX3_raise_204 : decode cX3_raise 204 = .ok (.iload_n 2, 1) := by decide +kernel
theorem dX3_raise_205 : decode cX3_raise 205 = .ok (.ireturn, 1) := by decide +kernel
set_option maxRecDepth 20000 in
theorem ggX3_isCask_X3_isIn : GoodIn wsX3_isCask wsX3_isIn := goodIn_r _ [5] (by decide +kernel) (by decide +kernel)
set_option maxRecDepth 20000 in
theorem gX3_isCask_X3_isIn : GoodIn wsX3_isCask (va_wsS RX3 70 yX3_isIn wsX3_isIn) := goodIn_app (goodIn_of _ (by decide +kernel)) ggX3_isCask_X3_isIn
theorem dX3_isCask_0 : decode cX3_isCask 0 = .ok (.iload_n 1, 1) := by decide +kernel
theorem dX3_isCask_1 : decode cX3_isCask 1 = .ok (.iconst 0, 1) := by decide +kernel
theorem dX3_isCask_2 : decode cX3_isCask 2 = .ok (.aload_n 0, 1) := by decide +kernel
theorem dX3_isCask_3 : decode cX3_isCask 3 = .ok (.getfield 110, 3) := by decide +kernel
theorem dX3_isCask_6 : decode cX3_isCask 6 = .ok (.iconst 1, 1) := by decide +kernel
theorem dX3_isCask_7 : decode cX3_isCask 7 = .ok (.isub, 1) := by decide +kernel
theorem dX3_isCask_8 : decode cX3_isCask 8 = .ok (.invokestatic 70, 3) := by decide +kernel
theorem dX3_isCask_11 : decode cX3_isCask 11 = .ok (.ireturn, 1) := by decide +kernel
theorem dX3_hoopsOf_0 : decode cX3_hoopsOf 0 = .ok (.aload_n 0, 1) := by decide +kernel
theorem dX3_hoopsOf_1 : decode cX3_hoopsOf 1 = .ok (.getfield 35, 3) := by decide +kernel
theorem dX3_hoopsOf_4 : decode cX3_hoopsOf 4 = .ok (.iload_n 1, 1) := by decide +kernel
theorem dX3_hoopsOf_5 : decode cX3_hoopsOf 5 = .ok (.baload, 1) := by decide +kernel
theorem dX3_hoopsOf_6 : decode cX3_hoopsOf 6 = .ok (.ifCond .eq 17, 3) := by decide +kernel
theorem dX3_hoopsOf_9 : decode cX3_hoopsOf 9 = .ok (.aload_n 0, 1) := by decide +kernel
theorem dX3_hoopsOf_10 : decode cX3_hoopsOf 10 = .ok (.getfield 29, 3) := by decide +kernel
theorem dX3_hoopsOf_13 : decode cX3_hoopsOf 13 = .ok (.aload_n 0, 1) := by decide +kernel
theorem dX3_hoopsOf_14 : decode cX3_hoopsOf 14 = .ok (.getfield 32, 3) := by decide +kernel
theorem dX3_hoopsOf_17 : decode cX3_hoopsOf 17 = .ok (.iload_n 1, 1) := by decide +kernel
theorem dX3_hoopsOf_18 : decode cX3_hoopsOf 18 = .ok (.iaload, 1) := by decide +kernel
theorem dX3_hoopsOf_19 : decode cX3_hoopsOf 19 = .ok (.iaload, 1) := by decide +kernel
theorem dX3_hoopsOf_20 : decode cX3_hoopsOf 20 = .ok (.goto 4, 3) := by decide +kernel
theorem dX3_hoopsOf_23 : decode cX3_hoopsOf 23 = .ok (.iconst 0, 1) := by decide +kernel
theorem dX3_hoopsOf_24 : decode cX3_hoopsOf 24 = .ok (.ireturn, 1) := by decide +kernel
set_option maxRecDepth 20000 in
theorem ggX3_tensions_X3_hoopsOf : GoodIn wsX3_tensions wsX3_hoopsOf := goodIn_r _ [6, 7, 8, 9, 10, 11, 12, 13, 14, 15, 16, 17, 18, 19, 20, 21, 22, 23, 24, 25, 26, 27, 28, 29, 30, 31, 32, 33, 34] (by decide +kernel) (by decide +kernel)
set_option maxRecDepth 20000 in
theorem gX3_tensions_X3_hoopsOf : GoodIn wsX3_tensions (wsV RX3 113 RX3 yX3_hoopsOf wsX3_hoopsOf) := goodIn_app (goodIn_of _ (by decide +kernel)) ggX3_tensions_X3_hoopsOf
theorem dX3_tensions_0 : decode cX3_tensions 0 = .ok (.iconst 0, 1) := by decide +kernel
theorem dX3_tensions_1 : decode cX3_tensions 1 = .ok (.istore_n 2, 1) := by decide +kernel
theorem dX3_tensions_2 : decode cX3_tensions 2 = .ok (.iconst 0, 1) := by decide +kernel
theorem dX3_tensions_3 : decode cX3_tensions 3 = .ok (.istore_n 3, 1) := by decide +kernel
theorem dX3_tensions_4 : decode cX3_tensions 4 = .ok (.iload_n 3, 1) := by decide +kernel
theorem dX3_tensions_5 : decode cX3_tensions 5 = .ok (.aload_n 0, 1) := by decide +kernel
theorem dX3_tensions_6 : decode cX3_tensions 6 = .ok (.iload_n 1, 1) := by decide +kernel
theorem dX3_tensions_7 : decode cX3_tensions 7 = .ok (.invokevirtual 113, 3) := by decide +kernel
theorem dX3_tensions_10 : decode cX3_tensions 10 = .ok (.if_icmp .ge 23, 3) := by decide +kernel
theorem dX3_tensions_13 : decode cX3_tensions 13 = .ok (.iload_n 2, 1) := by decide +kernel
theorem dX3_tensions_14 : decode cX3_tensions 14 = .ok (.aload_n 0, 1) := by decide +kernel
theorem dX3_tensions_15 : decode cX3_tensions 15 = .ok (.getfield 42, 3) := by decide +kernel
theorem dX3_tensions_18 : decode cX3_tensions 18 = .ok (.bipush 8, 2) := by decide +kernel
theorem dX3_tensions_20 : decode cX3_tensions 20 = .ok (.iload_n 1, 1) := by decide +kernel
theorem dX3_tensions_21 : decode cX3_tensions 21 = .ok (.imul, 1) := by decide +kernel
theorem dX3_tensions_22 : decode cX3_tensions 22 = .ok (.iload_n 3, 1) := by decide +kernel
theorem dX3_tensions_23 : decode cX3_tensions 23 = .ok (.iadd, 1) := by decide +kernel
theorem dX3_tensions_24 : decode cX3_tensions 24 = .ok (.iaload, 1) := by decide +kernel
theorem dX3_tensions_25 : decode cX3_tensions 25 = .ok (.iadd, 1) := by decide +kernel
theorem dX3_tensions_26 : decode cX3_tensions 26 = .ok (.istore_n 2, 1) := by decide +kernel
theorem dX3_tensions_27 : decode cX3_tensions 27 = .ok (.iinc 3 1, 3) := by decide +kernel
theorem dX3_tensions_30 : decode cX3_tensions 30 = .ok (.goto (-26), 3) := by decide +kernel
theorem dX3_tensions_33 : decode cX3_tensions 33 = .ok (.iload_n 2, 1) := by decide +kernel
theorem dX3_tensions_34 : decode cX3_tensions 34 = .ok (.ireturn, 1) := by decide +kernel
theorem dX3_all_0 : decode cX3_all 0 = .ok (.iconst 0, 1) := by decide +kernel
theorem dX3_all_1 : decode cX3_all 1 = .ok (.istore_n 2, 1) := by decide +kernel
theorem dX3_all_2 : decode cX3_all 2 = .ok (.iconst 0, 1) := by decide +kernel
theorem dX3_all_3 : decode cX3_all 3 = .ok (.istore_n 3, 1) := by decide +kernel
theorem dX3_all_4 : decode cX3_all 4 = .ok (.iload_n 3, 1) := by decide +kernel
theorem dX3_all_5 : decode cX3_all 5 = .ok (.iconst 5, 1) := by decide +kernel
theorem dX3_all_6 : decode cX3_all 6 = .ok (.if_icmp .ge 22, 3) := by decide +kernel
theorem dX3_all_9 : decode cX3_all 9 = .ok (.iload_n 2, 1) := by decide +kernel
theorem dX3_all_10 : decode cX3_all 10 = .ok (.aload_n 0, 1) := by decide +kernel
theorem dX3_all_11 : decode cX3_all 11 = .ok (.getfield 54, 3) := by decide +kernel
theorem dX3_all_14 : decode cX3_all 14 = .ok (.iconst 5, 1) := by decide +kernel
theorem dX3_all_15 : decode cX3_all 15 = .ok (.iload_n 1, 1) := by decide +kernel
theorem dX3_all_16 : decode cX3_all 16 = .ok (.imul, 1) := by decide +kernel
theorem dX3_all_17 : decode cX3_all 17 = .ok (.iload_n 3, 1) := by decide +kernel
theorem dX3_all_18 : decode cX3_all 18 = .ok (.iadd, 1) := by decide +kernel
theorem dX3_all_19 : decode cX3_all 19 = .ok (.iaload, 1) := by decide +kernel
theorem dX3_all_20 : decode cX3_all 20 = .ok (.iadd, 1) := by decide +kernel
theorem dX3_all_21 : decode cX3_all 21 = .ok (.istore_n 2, 1) := by decide +kernel
theorem dX3_all_22 : decode cX3_all 22 = .ok (.iinc 3 1, 3) := by decide +kernel
theorem dX3_all_25 : decode cX3_all 25 = .ok (.goto (-21), 3) := by decide +kernel
theorem dX3_all_28 : decode cX3_all 28 = .ok (.iload_n 2, 1) := by decide +kernel
theorem dX3_all_29 : decode cX3_all 29 = .ok (.ireturn, 1) := by decide +kernel
set_option maxRecDepth 20000 in
theorem ggX3_drive_X3_isCask : GoodIn wsX3_drive wsX3_isCask := goodIn_r _ [12, 13, 14, 15, 11, 16, 32, 33, 34, 35, 36, 37, 38, 39, 40, 41, 42, 43, 44, 45, 46, 47, 48, 49, 50, 51, 52, 53, 54, 55, 56] (by decide +kernel) (by decide +kernel)
set_option maxRecDepth 20000 in
theorem gX3_drive_X3_isCask : GoodIn wsX3_drive (wsV RX3 116 RX3 yX3_isCask wsX3_isCask) := goodIn_app (goodIn_of _ (by decide +kernel)) ggX3_drive_X3_isCask
set_option maxRecDepth 20000 in
theorem ggX3_drive_X3_hoopsOf : GoodIn wsX3_drive wsX3_hoopsOf := goodIn_r _ [20, 21, 22, 23, 32, 33, 34, 35, 36, 37, 38, 39, 40, 41, 42, 43, 44, 45, 46, 47, 48, 49, 50, 51, 52, 53, 54, 55, 56] (by decide +kernel) (by decide +kernel)
set_option maxRecDepth 20000 in
theorem gX3_drive_X3_hoopsOf : GoodIn wsX3_drive (wsV RX3 113 RX3 yX3_hoopsOf wsX3_hoopsOf) := goodIn_app (goodIn_of _ (by decide +kernel)) ggX3_drive_X3_hoopsOf
set_option maxRecDepth 20000 in
theorem ggX3_drive_X3_isIn : GoodIn wsX3_drive wsX3_isIn := goodIn_r _ [16] (by decide +kernel) (by decide +kernel)
set_option maxRecDepth 20000 in
theorem gX3_drive_X3_isIn : GoodIn wsX3_drive (va_wsS RX3 70 yX3_isIn wsX3_isIn) := goodIn_app (goodIn_of _ (by decide +kernel)) ggX3_drive_X3_isIn
set_option maxRecDepth 20000 in
theorem ggX3_drive_X3_no : GoodIn wsX3_drive wsX3_no := goodIn_r _ [27, 1, 32, 33, 34, 35, 36, 37, 38, 39, 40, 41, 42, 43, 44, 45, 46, 47, 48, 49, 50, 51, 52, 53, 54, 55, 56] (by decide +kernel) (by decide +kernel)
set_option maxRecDepth 20000 in
theorem gX3_drive_X3_no : GoodIn wsX3_drive (wsV RX3 74 RX3 yX3_no wsX3_no) := goodIn_app (goodIn_of _ (by decide +kernel)) ggX3_drive_X3_no
set_option maxRecDepth 20000 in
theorem ggX3_drive_X3_tensions : GoodIn wsX3_drive wsX3_tensions := goodIn_r _ [31, 2, 17, 18, 19, 11, 20, 21, 22, 23, 32, 33, 34, 35, 36, 37, 38, 39, 40, 41, 42, 43, 44, 45, 46, 47, 48, 49, 50, 51, 52, 53, 54, 55, 56] (by decide +kernel) (by decide +kernel)
set_option maxRecDepth 20000 in
theorem gX3_drive_X3_tensions : GoodIn wsX3_drive (wsV RX3 119 RX3 yX3_tensions wsX3_tensions) := goodIn_app (goodIn_of _ (by decide +kernel)) ggX3_drive_X3_tensions
theorem dX3_drive_0 : decode cX3_drive 0 = .ok (.aload_n 0, 1) := by decide +kernel
theorem dX3_drive_1 : decode cX3_drive 1 = .ok (.iconst 0, 1) := by decide +kernel
theorem dX3_drive_2 : decode cX3_drive 2 = .ok (.putfield 67, 3) := by decide +kernel
theorem dX3_drive_5 : decode cX3_drive 5 = .ok (.aload_n 0, 1) := by decide +kernel
theorem dX3_drive_6 : decode cX3_drive 6 = .ok (.iload_n 1, 1) := by decide +kernel
theorem dX3_drive_7 : decode cX3_drive 7 = .ok (.invokevirtual 116, 3) := by decide +kernel
theorem dX3_drive_10 : decode cX3_drive 10 = .ok (.ifCond .eq 18, 3) := by decide +kernel
theorem dX3_drive_13 : decode cX3_drive 13 = .ok (.iload_n 2, 1) := by decide +kernel
theorem dX3_drive_14 : decode cX3_drive 14 = .ok (.iconst 0, 1) := by decide +kernel
theorem dX3_drive_15 : decode cX3_drive 15 = .ok (.aload_n 0, 1) := by decide +kernel
theorem dX3_drive_16 : decode cX3_drive 16 = .ok (.iload_n 1, 1) := by decide +kernel
theorem dX3_drive_17 : decode cX3_drive 17 = .ok (.invokevirtual 113, 3) := by decide +kernel
theorem dX3_drive_20 : decode cX3_drive 20 = .ok (.iconst 1, 1) := by decide +kernel
theorem dX3_drive_21 : decode cX3_drive 21 = .ok (.isub, 1) := by decide +kernel
theorem dX3_drive_22 : decode cX3_drive 22 = .ok (.invokestatic 70, 3) := by decide +kernel
theorem dX3_drive_25 : decode cX3_drive 25 = .ok (.ifCond .ne 9, 3) := by decide +kernel
theorem dX3_drive_28 : decode cX3_drive 28 = .ok (.aload_n 0, 1) := by decide +kernel
theorem dX3_drive_29 : decode cX3_drive 29 = .ok (.iconst 1, 1) := by decide +kernel
theorem dX3_drive_30 : decode cX3_drive 30 = .ok (.invokevirtual 74, 3) := by decide +kernel
theorem dX3_drive_33 : decode cX3_drive 33 = .ok (.ireturn, 1) := by decide +kernel
theorem dX3_drive_34 : decode cX3_drive 34 = .ok (.iload_n 3, 1) := by decide +kernel
theorem dX3_drive_35 : decode cX3_drive 35 = .ok (.iconst 1, 1) := by decide +kernel
theorem dX3_drive_36 : decode cX3_drive 36 = .ok (.bipush 9, 2) := by decide +kernel
theorem dX3_drive_38 : decode cX3_drive 38 = .ok (.invokestatic 70, 3) := by decide +kernel
theorem dX3_drive_41 : decode cX3_drive 41 = .ok (.ifCond .ne 9, 3) := by decide +kernel
theorem dX3_drive_44 : decode cX3_drive 44 = .ok (.aload_n 0, 1) := by decide +kernel
theorem dX3_drive_45 : decode cX3_drive 45 = .ok (.iconst 2, 1) := by decide +kernel
theorem dX3_drive_46 : decode cX3_drive 46 = .ok (.invokevirtual 74, 3) := by decide +kernel
theorem dX3_drive_49 : decode cX3_drive 49 = .ok (.ireturn, 1) := by decide +kernel
theorem dX3_drive_50 : decode cX3_drive 50 = .ok (.bipush 8, 2) := by decide +kernel
theorem dX3_drive_52 : decode cX3_drive 52 = .ok (.iload_n 1, 1) := by decide +kernel
theorem dX3_drive_53 : decode cX3_drive 53 = .ok (.imul, 1) := by decide +kernel
theorem dX3_drive_54 : decode cX3_drive 54 = .ok (.iload_n 2, 1) := by decide +kernel
theorem dX3_drive_55 : decode cX3_drive 55 = .ok (.iadd, 1) := by decide +kernel
theorem dX3_drive_56 : decode cX3_drive 56 = .ok (.istore 4, 2) := by decide +kernel
theorem dX3_drive_58 : decode cX3_drive 58 = .ok (.aload_n 0, 1) := by decide +kernel
theorem dX3_drive_59 : decode cX3_drive 59 = .ok (.getfield 42, 3) := by decide +kernel
theorem dX3_drive_62 : decode cX3_drive 62 = .ok (.iload 4, 2) := by decide +kernel
theorem dX3_drive_64 : decode cX3_drive 64 = .ok (.bipush 9, 2) := by decide +kernel
theorem dX3_drive_66 : decode cX3_drive 66 = .ok (.aload_n 0, 1) := by decide +kernel
theorem dX3_drive_67 : decode cX3_drive 67 = .ok (.getfield 42, 3) := by decide +kernel
theorem dX3_drive_70 : decode cX3_drive 70 = .ok (.iload 4, 2) := by decide +kernel
theorem dX3_drive_72 : decode cX3_drive 72 = .ok (.iaload, 1) := by decide +kernel
theorem dX3_drive_73 : decode cX3_drive 73 = .ok (.iload_n 3, 1) := by decide +kernel
theorem dX3_drive_74 : decode cX3_drive 74 = .ok (.iadd, 1) := by decide +kernel
theorem dX3_drive_75 : decode cX3_drive 75 = .ok (.invokestatic 96, 3) := by decide +kernel
theorem dX3_drive_78 : decode cX3_drive 78 = .ok (.iastore, 1) := by decide +kernel
theorem dX3_drive_79 : decode cX3_drive 79 = .ok (.aload_n 0, 1) := by decide +kernel
theorem dX3_drive_80 : decode cX3_drive 80 = .ok (.iload_n 1, 1) := by decide +kernel
theorem dX3_drive_81 : decode cX3_drive 81 = .ok (.invokevirtual 119, 3) := by decide +kernel
theorem dX3_drive_84 : decode cX3_drive 84 = .ok (.iconst 5, 1) := by decide +kernel
theorem dX3_drive_85 : decode cX3_drive 85 = .ok (.aload_n 0, 1) := by decide +kernel
theorem dX3_drive_86 : decode cX3_drive 86 = .ok (.iload_n 1, 1) := by decide +kernel
theorem dX3_drive_87 : decode cX3_drive 87 = .ok (.invokevirtual 113, 3) := by decide +kernel
theorem dX3_drive_90 : decode cX3_drive 90 = .ok (.imul, 1) := by decide +kernel
theorem dX3_drive_91 : decode cX3_drive 91 = .ok (.if_icmp .le 13, 3) := by decide +kernel
theorem dX3_drive_94 : decode cX3_drive 94 = .ok (.aload_n 0, 1) := by decide +kernel
theorem dX3_drive_95 : decode cX3_drive 95 = .ok (.getfield 39, 3) := by decide +kernel
theorem dX3_drive_98 : decode cX3_drive 98 = .ok (.iload_n 1, 1) := by decide +kernel
theorem dX3_drive_99 : decode cX3_drive 99 = .ok (.dup2, 1) := by decide +kernel
theorem dX3_drive_100 : decode cX3_drive 100 = .ok (.iaload, 1) := by decide +kernel
theorem dX3_drive_101 : decode cX3_drive 101 = .ok (.iconst 1, 1) := by decide +kernel
theorem dX3_drive_102 : decode cX3_drive 102 = .ok (.iadd, 1) := by decide +kernel
theorem dX3_drive_103 : decode cX3_drive 103 = .ok (.iastore, 1) := by decide +kernel
theorem dX3_drive_104 : decode cX3_drive 104 = .ok (.aload_n 0, 1) := by decide +kernel
theorem dX3_drive_105 : decode cX3_drive 105 = .ok (.getfield 42, 3) := by decide +kernel
theorem dX3_drive_108 : decode cX3_drive 108 = .ok (.iload 4, 2) := by decide +kernel
theorem dX3_drive_110 : decode cX3_drive 110 = .ok (.iaload, 1) := by decide +kernel
theorem dX3_drive_111 : decode cX3_drive 111 = .ok (.ireturn, 1) := by decide +kernel
theorem dX3_lastStave_0 : decode cX3_lastStave 0 = .ok (.iconst (-1), 1) := by decide +kernel
theorem dX3_lastStave_1 : decode cX3_lastStave 1 = .ok (.istore_n 2, 1) := by decide +kernel
theorem dX3_lastStave_2 : decode cX3_lastStave 2 = .ok (.iconst 0, 1) := by decide +kernel
theorem dX3_lastStave_3 : decode cX3_lastStave 3 = .ok (.istore_n 3, 1) := by decide +kernel
theorem dX3_lastStave_4 : decode cX3_lastStave 4 = .ok (.iload_n 3, 1) := by decide +kernel
theorem dX3_lastStave_5 : decode cX3_lastStave 5 = .ok (.aload_n 0, 1) := by decide +kernel
theorem dX3_lastStave_6 : decode cX3_lastStave 6 = .ok (.getfield 78, 3) := by decide +kernel
theorem dX3_lastStave_9 : decode cX3_lastStave 9 = .ok (.if_icmp .ge 25, 3) := by decide +kernel
theorem dX3_lastStave_12 : decode cX3_lastStave 12 = .ok (.aload_n 0, 1) := by decide +kernel
theorem dX3_lastStave_13 : decode cX3_lastStave 13 = .ok (.getfield 20, 3) := by decide +kernel
theorem dX3_lastStave_16 : decode cX3_lastStave 16 = .ok (.iload_n 3, 1) := by decide +kernel
theorem dX3_lastStave_17 : decode cX3_lastStave 17 = .ok (.iaload, 1) := by decide +kernel
theorem dX3_lastStave_18 : decode cX3_lastStave 18 = .ok (.iload_n 1, 1) := by decide +kernel
theorem dX3_lastStave_19 : decode cX3_lastStave 19 = .ok (.if_icmp .ne 7, 3) := by decide +kernel
theorem dX3_lastStave_22 : decode cX3_lastStave 22 = .ok (.iload_n 3, 1) := by decide +kernel
theorem dX3_lastStave_23 : decode cX3_lastStave 23 = .ok (.goto 4, 3) := by decide +kernel
theorem dX3_lastStave_26 : decode cX3_lastStave 26 = .ok (.iload_n 2, 1) := by decide +kernel
theorem dX3_lastStave_27 : decode cX3_lastStave 27 = .ok (.istore_n 2, 1) := by decide +kernel
theorem dX3_lastStave_28 : decode cX3_lastStave 28 = .ok (.iinc 3 1, 3) := by decide +kernel
theorem dX3_lastStave_31 : decode cX3_lastStave 31 = .ok (.goto (-27), 3) := by decide +kernel
theorem dX3_lastStave_34 : decode cX3_lastStave 34 = .ok (.iload_n 2, 1) := by decide +kernel
theorem dX3_lastStave_35 : decode cX3_lastStave 35 = .ok (.ireturn, 1) := by decide +kernel
set_option maxRecDepth 20000 in
theorem ggX3_mend_X3_isCask : GoodIn wsX3_mend wsX3_isCask := goodIn_r _ [11, 12, 13, 14, 10, 15, 34, 35, 36, 37, 38, 39, 40, 41, 42, 43, 44, 45, 46, 47, 48, 49, 50, 51, 52, 53, 54, 55, 56, 57, 58] (by decide +kernel) (by decide +kernel)
set_option maxRecDepth 20000 in
theorem gX3_mend_X3_isCask : GoodIn wsX3_mend (wsV RX3 116 RX3 yX3_isCask wsX3_isCask) := goodIn_app (goodIn_of _ (by decide +kernel)) ggX3_mend_X3_isCask
set_option maxRecDepth 20000 in
theorem ggX3_mend_X3_isStave : GoodIn wsX3_mend wsX3_isStave := goodIn_r _ [19, 20, 13, 14, 10, 15, 34, 35, 36, 37, 38, 39, 40, 41, 42, 43, 44, 45, 46, 47, 48, 49, 50, 51, 52, 53, 54, 55, 56, 57, 58] (by decide +kernel) (by decide +kernel)
set_option maxRecDepth 20000 in
theorem gX3_mend_X3_isStave : GoodIn wsX3_mend (wsV RX3 81 RX3 yX3_isStave wsX3_isStave) := goodIn_app (goodIn_of _ (by decide +kernel)) ggX3_mend_X3_isStave
set_option maxRecDepth 20000 in
theorem ggX3_mend_X3_no : GoodIn wsX3_mend wsX3_no := goodIn_r _ [24, 1, 34, 35, 36, 37, 38, 39, 40, 41, 42, 43, 44, 45, 46, 47, 48, 49, 50, 51, 52, 53, 54, 55, 56, 57, 58] (by decide +kernel) (by decide +kernel)
set_option maxRecDepth 20000 in
theorem gX3_mend_X3_no : GoodIn wsX3_mend (wsV RX3 74 RX3 yX3_no wsX3_no) := goodIn_app (goodIn_of _ (by decide +kernel)) ggX3_mend_X3_no
set_option maxRecDepth 20000 in
theorem ggX3_mend_X3_all : GoodIn wsX3_mend wsX3_all := goodIn_r _ [28, 29, 34, 35, 36, 37, 38, 39, 40, 41, 42, 43, 44, 45, 46, 47, 48, 49, 50, 51, 52, 53, 54, 55, 56, 57, 58] (by decide +kernel) (by decide +kernel)
set_option maxRecDepth 20000 in
theorem gX3_mend_X3_all : GoodIn wsX3_mend (wsV RX3 122 RX3 yX3_all wsX3_all) := goodIn_app (goodIn_of _ (by decide +kernel)) ggX3_mend_X3_all
set_option maxRecDepth 20000 in
theorem ggX3_mend_X3_lastStave : GoodIn wsX3_mend wsX3_lastStave := goodIn_r _ [33, 20, 3, 34, 35, 36, 37, 38, 39, 40, 41, 42, 43, 44, 45, 46, 47, 48, 49, 50, 51, 52, 53, 54, 55, 56, 57, 58] (by decide +kernel) (by decide +kernel)
set_option maxRecDepth 20000 in
theorem gX3_mend_X3_lastStave : GoodIn wsX3_mend (wsV RX3 125 RX3 yX3_lastStave wsX3_lastStave) := goodIn_app (goodIn_of _ (by decide +kernel)) ggX3_mend_X3_lastStave
theorem dX3_mend_0 : decode cX3_mend 0 = .ok (.aload_n 0, 1) := by decide +kernel
theorem dX3_mend_1 : decode cX3_mend 1 = .ok (.iconst 0, 1) := by decide +kernel
theorem dX3_mend_2 : decode cX3_mend 2 = .ok (.putfield 67, 3) := by decide +kernel
theorem dX3_mend_5 : decode cX3_mend 5 = .ok (.aload_n 0, 1) := by decide +kernel
theorem dX3_mend_6 : decode cX3_mend 6 = .ok (.iload_n 1, 1) := by decide +kernel
theorem dX3_mend_7 : decode cX3_mend 7 = .ok (.invokevirtual 116, 3) := by decide +kernel
theorem dX3_mend_10 : decode cX3_mend 10 = .ok (.ifCond .eq 11, 3) := by decide +kernel
theorem dX3_mend_13 : decode cX3_mend 13 = .ok (.aload_n 0, 1) := by decide +kernel
theorem dX3_mend_14 : decode cX3_mend 14 = .ok (.iload_n 2, 1) := by decide +kernel
theorem dX3_mend_15 : decode cX3_mend 15 = .ok (.invokevirtual 81, 3) := by decide +kernel
theorem dX3_mend_18 : decode cX3_mend 18 = .ok (.ifCond .ne 9, 3) := by decide +kernel
theorem dX3_mend_21 : decode cX3_mend 21 = .ok (.aload_n 0, 1) := by decide +kernel
theorem dX3_mend_22 : decode cX3_mend 22 = .ok (.iconst 1, 1) := by decide +kernel
theorem dX3_mend_23 : decode cX3_mend 23 = .ok (.invokevirtual 74, 3) := by decide +kernel
theorem dX3_mend_26 : decode cX3_mend 26 = .ok (.ireturn, 1) := by decide +kernel
theorem dX3_mend_27 : decode cX3_mend 27 = .ok (.aload_n 0, 1) := by decide +kernel
theorem dX3_mend_28 : decode cX3_mend 28 = .ok (.getfield 35, 3) := by decide +kernel
theorem dX3_mend_31 : decode cX3_mend 31 = .ok (.iload_n 1, 1) := by decide +kernel
theorem dX3_mend_32 : decode cX3_mend 32 = .ok (.baload, 1) := by decide +kernel
theorem dX3_mend_33 : decode cX3_mend 33 = .ok (.ifCond .eq 40, 3) := by decide +kernel
theorem dX3_mend_36 : decode cX3_mend 36 = .ok (.aload_n 0, 1) := by decide +kernel
theorem dX3_mend_37 : decode cX3_mend 37 = .ok (.iload_n 1, 1) := by decide +kernel
theorem dX3_mend_38 : decode cX3_mend 38 = .ok (.invokevirtual 122, 3) := by decide +kernel
theorem dX3_mend_41 : decode cX3_mend 41 = .ok (.ifCond .gt 32, 3) := by decide +kernel
theorem dX3_mend_44 : decode cX3_mend 44 = .ok (.aload_n 0, 1) := by decide +kernel
theorem dX3_mend_45 : decode cX3_mend 45 = .ok (.getfield 20, 3) := by decide +kernel
theorem dX3_mend_48 : decode cX3_mend 48 = .ok (.iload_n 2, 1) := by decide +kernel
theorem dX3_mend_49 : decode cX3_mend 49 = .ok (.iaload, 1) := by decide +kernel
theorem dX3_mend_50 : decode cX3_mend 50 = .ok (.iconst (-1), 1) := by decide +kernel
theorem dX3_mend_51 : decode cX3_mend 51 = .ok (.if_icmp .ne 22, 3) := by decide +kernel
theorem dX3_mend_54 : decode cX3_mend 54 = .ok (.aload_n 0, 1) := by decide +kernel
theorem dX3_mend_55 : decode cX3_mend 55 = .ok (.getfield 13, 3) := by decide +kernel
theorem dX3_mend_58 : decode cX3_mend 58 = .ok (.iload_n 2, 1) := by decide +kernel
theorem dX3_mend_59 : decode cX3_mend 59 = .ok (.iaload, 1) := by decide +kernel
theorem dX3_mend_60 : decode cX3_mend 60 = .ok (.aload_n 0, 1) := by decide +kernel
theorem dX3_mend_61 : decode cX3_mend 61 = .ok (.getfield 13, 3) := by decide +kernel
theorem dX3_mend_64 : decode cX3_mend 64 = .ok (.aload_n 0, 1) := by decide +kernel
theorem dX3_mend_65 : decode cX3_mend 65 = .ok (.iload_n 1, 1) := by decide +kernel
theorem dX3_mend_66 : decode cX3_mend 66 = .ok (.invokevirtual 125, 3) := by decide +kernel
theorem dX3_mend_69 : decode cX3_mend 69 = .ok (.iaload, 1) := by decide +kernel
theorem dX3_mend_70 : decode cX3_mend 70 = .ok (.if_icmp .eq 9, 3) := by decide +kernel
theorem dX3_mend_73 : decode cX3_mend 73 = .ok (.aload_n 0, 1) := by decide +kernel
theorem dX3_mend_74 : decode cX3_mend 74 = .ok (.iconst 2, 1) := by decide +kernel
theorem dX3_mend_75 : decode cX3_mend 75 = .ok (.invokevirtual 74, 3) := by decide +kernel
theorem dX3_mend_78 : decode cX3_mend 78 = .ok (.ireturn, 1) := by decide +kernel
theorem dX3_mend_79 : decode cX3_mend 79 = .ok (.aload_n 0, 1) := by decide +kernel
theorem dX3_mend_80 : decode cX3_mend 80 = .ok (.getfield 20, 3) := by decide +kernel
theorem dX3_mend_83 : decode cX3_mend 83 = .ok (.aload_n 0, 1) := by decide +kernel
theorem dX3_mend_84 : decode cX3_mend 84 = .ok (.iload_n 1, 1) := by decide +kernel
theorem dX3_mend_85 : decode cX3_mend 85 = .ok (.invokevirtual 125, 3) := by decide +kernel
theorem dX3_mend_88 : decode cX3_mend 88 = .ok (.bipush (-2), 2) := by decide +kernel
theorem dX3_mend_90 : decode cX3_mend 90 = .ok (.iastore, 1) := by decide +kernel
theorem dX3_mend_91 : decode cX3_mend 91 = .ok (.aload_n 0, 1) := by decide +kernel
theorem dX3_mend_92 : decode cX3_mend 92 = .ok (.getfield 20, 3) := by decide +kernel
theorem dX3_mend_95 : decode cX3_mend 95 = .ok (.iload_n 2, 1) := by decide +kernel
theorem dX3_mend_96 : decode cX3_mend 96 = .ok (.iload_n 1, 1) := by decide +kernel
theorem dX3_mend_97 : decode cX3_mend 97 = .ok (.iastore, 1) := by decide +kernel
theorem dX3_mend_98 : decode cX3_mend 98 = .ok (.aload_n 0, 1) := by decide +kernel
theorem dX3_mend_99 : decode cX3_mend 99 = .ok (.getfield 39, 3) := by decide +kernel
theorem dX3_mend_102 : decode cX3_mend 102 = .ok (.iload_n 1, 1) := by decide +kernel
theorem dX3_mend_103 : decode cX3_mend 103 = .ok (.iaload, 1) := by decide +kernel
theorem dX3_mend_104 : decode cX3_mend 104 = .ok (.istore_n 3, 1) := by decide +kernel
theorem dX3_mend_105 : decode cX3_mend 105 = .ok (.aload_n 0, 1) := by decide +kernel
theorem dX3_mend_106 : decode cX3_mend 106 = .ok (.getfield 39, 3) := by decide +kernel
theorem dX3_mend_109 : decode cX3_mend 109 = .ok (.iload_n 1, 1) := by decide +kernel
theorem dX3_mend_110 : decode cX3_mend 110 = .ok (.aload_n 0, 1) := by decide +kernel
theorem dX3_mend_111 : decode cX3_mend 111 = .ok (.getfield 17, 3) := by decide +kernel
theorem dX3_mend_114 : decode cX3_mend 114 = .ok (.iload_n 2, 1) := by decide +kernel
theorem dX3_mend_115 : decode cX3_mend 115 = .ok (.iaload, 1) := by decide +kernel
theorem dX3_mend_116 : decode cX3_mend 116 = .ok (.bipush 70, 2) := by decide +kernel
theorem dX3_mend_118 : decode cX3_mend 118 = .ok (.if_icmp .ge 7, 3) := by decide +kernel
theorem dX3_mend_121 : decode cX3_mend 121 = .ok (.iconst 1, 1) := by decide +kernel
theorem dX3_mend_122 : decode cX3_mend 122 = .ok (.goto 4, 3) := by decide +kernel
theorem dX3_mend_125 : decode cX3_mend 125 = .ok (.iconst 0, 1) := by decide +kernel
theorem dX3_mend_126 : decode cX3_mend 126 = .ok (.iastore, 1) := by decide +kernel
theorem dX3_mend_127 : decode cX3_mend 127 = .ok (.iload_n 3, 1) := by decide +kernel
theorem dX3_mend_128 : decode cX3_mend 128 = .ok (.ireturn, 1) := by decide +kernel
set_option maxRecDepth 20000 in
theorem ggX3_breakUp_X3_isCask : GoodIn wsX3_breakUp wsX3_isCask := goodIn_r _ [16, 17, 18, 19, 15, 20, 29, 30, 31, 32, 33, 34, 35, 36, 37, 38, 39, 40, 41, 42, 43, 44, 45, 46, 47, 48, 49, 50, 51, 52, 53] (by decide +kernel) (by decide +kernel)
set_option maxRecDepth 20000 in
theorem gX3_breakUp_X3_isCask : GoodIn wsX3_breakUp (wsV RX3 116 RX3 yX3_isCask wsX3_isCask) := goodIn_app (goodIn_of _ (by decide +kernel)) ggX3_breakUp_X3_isCask
set_option maxRecDepth 20000 in
theorem ggX3_breakUp_X3_no : GoodIn wsX3_breakUp wsX3_no := goodIn_r _ [24, 1, 29, 30, 31, 32, 33, 34, 35, 36, 37, 38, 39, 40, 41, 42, 43, 44, 45, 46, 47, 48, 49, 50, 51, 52, 53] (by decide +kernel) (by decide +kernel)
set_option maxRecDepth 20000 in
theorem gX3_breakUp_X3_no : GoodIn wsX3_breakUp (wsV RX3 74 RX3 yX3_no wsX3_no) := goodIn_app (goodIn_of _ (by decide +kernel)) ggX3_breakUp_X3_no
set_option maxRecDepth 20000 in
theorem ggX3_breakUp_X3_all : GoodIn wsX3_breakUp wsX3_all := goodIn_r _ [28, 3, 29, 30, 31, 32, 33, 34, 35, 36, 37, 38, 39, 40, 41, 42, 43, 44, 45, 46, 47, 48, 49, 50, 51, 52, 53] (by decide +kernel) (by decide +kernel)
set_option maxRecDepth 20000 in
theorem gX3_breakUp_X3_all : GoodIn wsX3_breakUp (wsV RX3 122 RX3 yX3_all wsX3_all) := goodIn_app (goodIn_of _ (by decide +kernel)) ggX3_breakUp_X3_all
theorem dX3_breakUp_0 : decode cX3_breakUp 0 = .ok (.aload_n 0, 1) := by decide +kernel
theorem dX3_breakUp_1 : decode cX3_breakUp 1 = .ok (.iconst 0, 1) := by decide +kernel
theorem dX3_breakUp_2 : decode cX3_breakUp 2 = .ok (.putfield 67, 3) := by decide +kernel
theorem dX3_breakUp_5 : decode cX3_breakUp 5 = .ok (.aload_n 0, 1) := by decide +kernel
theorem dX3_breakUp_6 : decode cX3_breakUp 6 = .ok (.iload_n 1, 1) := by decide +kernel
theorem dX3_breakUp_7 : decode cX3_breakUp 7 = .ok (.invokevirtual 116, 3) := by decide +kernel
theorem dX3_breakUp_10 : decode cX3_breakUp 10 = .ok (.ifCond .ne 9, 3) := by decide +kernel
theorem dX3_breakUp_13 : decode cX3_breakUp 13 = .ok (.aload_n 0, 1) := by decide +kernel
theorem dX3_breakUp_14 : decode cX3_breakUp 14 = .ok (.iconst 1, 1) := by decide +kernel
theorem dX3_breakUp_15 : decode cX3_breakUp 15 = .ok (.invokevirtual 74, 3) := by decide +kernel
theorem dX3_breakUp_18 : decode cX3_breakUp 18 = .ok (.ireturn, 1) := by decide +kernel
theorem dX3_breakUp_19 : decode cX3_breakUp 19 = .ok (.aload_n 0, 1) := by decide +kernel
theorem dX3_breakUp_20 : decode cX3_breakUp 20 = .ok (.getfield 35, 3) := by decide +kernel
theorem dX3_breakUp_23 : decode cX3_breakUp 23 = .ok (.iload_n 1, 1) := by decide +kernel
theorem dX3_breakUp_24 : decode cX3_breakUp 24 = .ok (.baload, 1) := by decide +kernel
theorem dX3_breakUp_25 : decode cX3_breakUp 25 = .ok (.ifCond .ne 9, 3) := by decide +kernel
theorem dX3_breakUp_28 : decode cX3_breakUp 28 = .ok (.aload_n 0, 1) := by decide +kernel
theorem dX3_breakUp_29 : decode cX3_breakUp 29 = .ok (.iconst 2, 1) := by decide +kernel
theorem dX3_breakUp_30 : decode cX3_breakUp 30 = .ok (.invokevirtual 74, 3) := by decide +kernel
theorem dX3_breakUp_33 : decode cX3_breakUp 33 = .ok (.ireturn, 1) := by decide +kernel
theorem dX3_breakUp_34 : decode cX3_breakUp 34 = .ok (.aload_n 0, 1) := by decide +kernel
theorem dX3_breakUp_35 : decode cX3_breakUp 35 = .ok (.iload_n 1, 1) := by decide +kernel
theorem dX3_breakUp_36 : decode cX3_breakUp 36 = .ok (.invokevirtual 122, 3) := by decide +kernel
theorem dX3_breakUp_39 : decode cX3_breakUp 39 = .ok (.istore_n 2, 1) := by decide +kernel
theorem dX3_breakUp_40 : decode cX3_breakUp 40 = .ok (.iconst 0, 1) := by decide +kernel
theorem dX3_breakUp_41 : decode cX3_breakUp 41 = .ok (.istore_n 3, 1) := by decide +kernel
theorem dX3_breakUp_42 : decode cX3_breakUp 42 = .ok (.iload_n 3, 1) := by decide +kernel
theorem dX3_breakUp_43 : decode cX3_breakUp 43 = .ok (.iconst 5, 1) := by decide +kernel
theorem dX3_breakUp_44 : decode cX3_breakUp 44 = .ok (.if_icmp .ge 20, 3) := by decide +kernel
theorem dX3_breakUp_47 : decode cX3_breakUp 47 = .ok (.aload_n 0, 1) := by decide +kernel
theorem dX3_breakUp_48 : decode cX3_breakUp 48 = .ok (.getfield 54, 3) := by decide +kernel
theorem dX3_breakUp_51 : decode cX3_breakUp 51 = .ok (.iconst 5, 1) := by decide +kernel
theorem dX3_breakUp_52 : decode cX3_breakUp 52 = .ok (.iload_n 1, 1) := by decide +kernel
theorem dX3_breakUp_53 : decode cX3_breakUp 53 = .ok (.imul, 1) := by decide +kernel
theorem dX3_breakUp_54 : decode cX3_breakUp 54 = .ok (.iload_n 3, 1) := by decide +kernel
theorem dX3_breakUp_55 : decode cX3_breakUp 55 = .ok (.iadd, 1) := by decide +kernel
theorem dX3_breakUp_56 : decode cX3_breakUp 56 = .ok (.iconst 0, 1) := by decide +kernel
theorem dX3_breakUp_57 : decode cX3_breakUp 57 = .ok (.iastore, 1) := by decide +kernel
theorem dX3_breakUp_58 : decode cX3_breakUp 58 = .ok (.iinc 3 1, 3) := by decide +kernel
theorem dX3_breakUp_61 : decode cX3_breakUp 61 = .ok (.goto (-19), 3) := by decide +kernel
theorem dX3_breakUp_64 : decode cX3_breakUp 64 = .ok (.aload_n 0, 1) := by decide +kernel
theorem dX3_breakUp_65 : decode cX3_breakUp 65 = .ok (.getfield 57, 3) := by decide +kernel
theorem dX3_breakUp_68 : decode cX3_breakUp 68 = .ok (.iload_n 1, 1) := by decide +kernel
theorem dX3_breakUp_69 : decode cX3_breakUp 69 = .ok (.iconst 0, 1) := by decide +kernel
theorem dX3_breakUp_70 : decode cX3_breakUp 70 = .ok (.iastore, 1) := by decide +kernel
theorem dX3_breakUp_71 : decode cX3_breakUp 71 = .ok (.iconst 1, 1) := by decide +kernel
theorem dX3_breakUp_72 : decode cX3_breakUp 72 = .ok (.istore_n 3, 1) := by decide +kernel
theorem dX3_breakUp_73 : decode cX3_breakUp 73 = .ok (.iconst 0, 1) := by decide +kernel
theorem dX3_breakUp_74 : decode cX3_breakUp 74 = .ok (.istore 4, 2) := by decide +kernel
theorem dX3_breakUp_76 : decode cX3_breakUp 76 = .ok (.iload 4, 2) := by decide +kernel
theorem dX3_breakUp_78 : decode cX3_breakUp 78 = .ok (.aload_n 0, 1) := by decide +kernel
theorem dX3_breakUp_79 : decode cX3_breakUp 79 = .ok (.getfield 78, 3) := by decide +kernel
theorem dX3_breakUp_82 : decode cX3_breakUp 82 = .ok (.if_icmp .ge 63, 3) := by decide +kernel
theorem dX3_breakUp_85 : decode cX3_breakUp 85 = .ok (.aload_n 0, 1) := by decide +kernel
theorem dX3_breakUp_86 : decode cX3_breakUp 86 = .ok (.getfield 20, 3) := by decide +kernel
theorem dX3_breakUp_89 : decode cX3_breakUp 89 = .ok (.iload 4, 2) := by decide +kernel
theorem dX3_breakUp_91 : decode cX3_breakUp 91 = .ok (.iaload, 1) := by decide +kernel
theorem dX3_breakUp_92 : decode cX3_breakUp 92 = .ok (.iload_n 1, 1) := by decide +kernel
theorem dX3_breakUp_93 : decode cX3_breakUp 93 = .ok (.if_icmp .eq 6, 3) := by decide +kernel
theorem dX3_breakUp_96 : decode cX3_breakUp 96 = .ok (.goto 43, 3) := by decide +kernel
theorem dX3_breakUp_99 : decode cX3_breakUp 99 = .ok (.aload_n 0, 1) := by decide +kernel
theorem dX3_breakUp_100 : decode cX3_breakUp 100 = .ok (.getfield 20, 3) := by decide +kernel
theorem dX3_breakUp_103 : decode cX3_breakUp 103 = .ok (.iload 4, 2) := by decide +kernel
theorem dX3_breakUp_105 : decode cX3_breakUp 105 = .ok (.iload_n 3, 1) := by decide +kernel
theorem dX3_breakUp_106 : decode cX3_breakUp 106 = .ok (.ifCond .eq 8, 3) := by decide +kernel
theorem dX3_breakUp_109 : decode cX3_breakUp 109 = .ok (.bipush (-2), 2) := by decide +kernel
theorem dX3_breakUp_111 : decode cX3_breakUp 111 = .ok (.goto 4, 3) := by decide +kernel
