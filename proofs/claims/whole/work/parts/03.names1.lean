set_option maxRecDepth 20000 in
theorem wsL_law0_r1_in : ∀ w ∈ wsL_law0_r1, w ∈ lw_tbl := fun w h => (goodIn_p wsL_law0_r1 [65, 68] (by decide +kernel) (by decide +kernel) w h).1
set_option maxRecDepth 20000 in
theorem wsL_law0_r2_in : ∀ w ∈ wsL_law0_r2, w ∈ lw_tbl := fun w h => (goodIn_p wsL_law0_r2 [74, 126, 660] (by decide +kernel) (by decide +kernel) w h).1
set_option maxRecDepth 20000 in
theorem wsL_law0_r3_in : ∀ w ∈ wsL_law0_r3, w ∈ lw_tbl := fun w h => (goodIn_p wsL_law0_r3 [] (by decide +kernel) (by decide +kernel) w h).1
set_option maxRecDepth 20000 in
theorem wsL_law0_r4_in : ∀ w ∈ wsL_law0_r4, w ∈ lw_tbl := fun w h => (goodIn_p wsL_law0_r4 [331, 747, 750, 754, 743] (by decide +kernel) (by decide +kernel) w h).1
set_option maxRecDepth 20000 in
theorem wsL_law0_r5_in : ∀ w ∈ wsL_law0_r5, w ∈ lw_tbl := fun w h => (goodIn_p wsL_law0_r5 [372, 376, 758, 762] (by decide +kernel) (by decide +kernel) w h).1
set_option maxRecDepth 20000 in
theorem wsL_law0_r6_in : ∀ w ∈ wsL_law0_r6, w ∈ lw_tbl := fun w h => (goodIn_p wsL_law0_r6 [766, 385, 770, 397] (by decide +kernel) (by decide +kernel) w h).1
set_option maxRecDepth 20000 in
theorem wsL_law0_r7_in : ∀ w ∈ wsL_law0_r7, w ∈ lw_tbl := fun w h => (goodIn_p wsL_law0_r7 [401, 407, 411, 414, 418, 422] (by decide +kernel) (by decide +kernel) w h).1
set_option maxRecDepth 20000 in
theorem wsL_law0_r8_in : ∀ w ∈ wsL_law0_r8, w ∈ lw_tbl := fun w h => (goodIn_p wsL_law0_r8 [426, 429, 775, 779, 783, 467] (by decide +kernel) (by decide +kernel) w h).1
set_option maxRecDepth 20000 in
theorem wsL_law0_r9_in : ∀ w ∈ wsL_law0_r9, w ∈ lw_tbl := fun w h => (goodIn_p wsL_law0_r9 [787, 436, 442] (by decide +kernel) (by decide +kernel) w h).1
set_option maxRecDepth 20000 in
theorem wsL_law0_r10_in : ∀ w ∈ wsL_law0_r10, w ∈ lw_tbl := fun w h => (goodIn_p wsL_law0_r10 [446, 450, 792, 457, 461] (by decide +kernel) (by decide +kernel) w h).1
set_option maxRecDepth 20000 in
theorem wsL_law0_r11_in : ∀ w ∈ wsL_law0_r11, w ∈ lw_tbl := fun w h => (goodIn_p wsL_law0_r11 [314, 796, 800, 804, 808] (by decide +kernel) (by decide +kernel) w h).1
set_option maxRecDepth 20000 in
theorem wsL_law0_r12_in : ∀ w ∈ wsL_law0_r12, w ∈ lw_tbl := fun w h => (goodIn_p wsL_law0_r12 [474, 478, 212, 812, 816, 820] (by decide +kernel) (by decide +kernel) w h).1
set_option maxRecDepth 20000 in
theorem wsL_law0_r13_in : ∀ w ∈ wsL_law0_r13, w ∈ lw_tbl := fun w h => (goodIn_p wsL_law0_r13 [489, 494, 322, 499] (by decide +kernel) (by decide +kernel) w h).1
set_option maxRecDepth 20000 in
theorem wsL_law0_r14_in : ∀ w ∈ wsL_law0_r14, w ∈ lw_tbl := fun w h => (goodIn_p wsL_law0_r14 [824, 507, 310] (by decide +kernel) (by decide +kernel) w h).1
set_option maxRecDepth 20000 in
theorem wsL_law0_r15_in : ∀ w ∈ wsL_law0_r15, w ∈ lw_tbl := fun w h => (goodIn_p wsL_law0_r15 [294, 318, 829, 833, 837, 841] (by decide +kernel) (by decide +kernel) w h).1
set_option maxRecDepth 20000 in
theorem wsL_law0_r16_in : ∀ w ∈ wsL_law0_r16, w ∈ lw_tbl := fun w h => (goodIn_p wsL_law0_r16 [515, 522, 845, 849] (by decide +kernel) (by decide +kernel) w h).1
set_option maxRecDepth 20000 in
theorem wsL_law0_r17_in : ∀ w ∈ wsL_law0_r17, w ∈ lw_tbl := fun w h => (goodIn_p wsL_law0_r17 [530, 538, 542, 853, 549] (by decide +kernel) (by decide +kernel) w h).1
set_option maxRecDepth 20000 in
theorem wsL_law0_r18_in : ∀ w ∈ wsL_law0_r18, w ∈ lw_tbl := fun w h => (goodIn_p wsL_law0_r18 [857, 557, 563, 566, 570] (by decide +kernel) (by decide +kernel) w h).1
set_option maxRecDepth 20000 in
theorem wsL_law0_r19_in : ∀ w ∈ wsL_law0_r19, w ∈ lw_tbl := fun w h => (goodIn_p wsL_law0_r19 [574, 578, 584, 588, 591, 595] (by decide +kernel) (by decide +kernel) w h).1
set_option maxRecDepth 20000 in
theorem wsL_law0_r20_in : ∀ w ∈ wsL_law0_r20, w ∈ lw_tbl := fun w h => (goodIn_p wsL_law0_r20 [599, 861, 865, 222] (by decide +kernel) (by decide +kernel) w h).1
set_option maxRecDepth 20000 in
theorem wsL_law0_r21_in : ∀ w ∈ wsL_law0_r21, w ∈ lw_tbl := fun w h => (goodIn_p wsL_law0_r21 [298, 208, 302, 872, 876] (by decide +kernel) (by decide +kernel) w h).1
set_option maxRecDepth 20000 in
theorem wsL_law0_r22_in : ∀ w ∈ wsL_law0_r22, w ∈ lw_tbl := fun w h => (goodIn_p wsL_law0_r22 [610, 615, 880, 885] (by decide +kernel) (by decide +kernel) w h).1
set_option maxRecDepth 20000 in
theorem wsL_law0_r23_in : ∀ w ∈ wsL_law0_r23, w ∈ lw_tbl := fun w h => (goodIn_p wsL_law0_r23 [625, 631, 635] (by decide +kernel) (by decide +kernel) w h).1
set_option maxRecDepth 20000 in
theorem wsL_law0_r24_in : ∀ w ∈ wsL_law0_r24, w ∈ lw_tbl := fun w h => (goodIn_p wsL_law0_r24 [639, 643, 647, 652, 655, 889] (by decide +kernel) (by decide +kernel) w h).1
set_option maxRecDepth 20000 in
theorem wsL_law0_r25_in : ∀ w ∈ wsL_law0_r25, w ∈ lw_tbl := fun w h => (goodIn_p wsL_law0_r25 [904, 895, 899, 204, 908, 216] (by decide +kernel) (by decide +kernel) w h).1
set_option maxRecDepth 20000 in
theorem wsL_law0_r26_in : ∀ w ∈ wsL_law0_r26, w ∈ lw_tbl := fun w h => (goodIn_p wsL_law0_r26 [306, 912] (by decide +kernel) (by decide +kernel) w h).1
set_option maxRecDepth 20000 in
theorem cy_wsX20_in : ∀ w ∈ wsX20, w ∈ lw_tbl := by decide +kernel
set_option maxRecDepth 20000 in
theorem cy_wsX30_in : ∀ w ∈ wsX30, w ∈ lw_tbl := by decide +kernel
set_option maxRecDepth 20000 in
theorem cy_wsX10_in : ∀ w ∈ wsX10, w ∈ lw_tbl := by decide +kernel
set_option maxRecDepth 20000 in
theorem cy_wsX00_in : ∀ w ∈ wsX00, w ∈ lw_tbl := by decide +kernel
theorem cy_elim {P : Cond → Prop} {a b : List Cond} (ha : ∀ w ∈ a, P w) (hb : ∀ w ∈ b, P w) : ∀ w ∈ a ++ b, P w := fun w h => (List.mem_append.mp h).elim (ha w) (hb w)
theorem wsL_law_in0 : ∀ w ∈ wsL_law0, w ∈ lw_tbl := cy_elim (cy_elim (cy_elim (cy_elim (cy_elim (cy_elim wsL_law0_r1_in (cy_elim wsL_law0_r2_in (cy_elim wsL_law0_r3_in (cy_elim wsL_law0_r4_in (cy_elim wsL_law0_r5_in (cy_elim wsL_law0_r6_in (cy_elim wsL_law0_r7_in (cy_elim wsL_law0_r8_in (cy_elim wsL_law0_r9_in (cy_elim wsL_law0_r10_in (cy_elim wsL_law0_r11_in (cy_elim wsL_law0_r12_in (cy_elim wsL_law0_r13_in (cy_elim wsL_law0_r14_in (cy_elim wsL_law0_r15_in (cy_elim wsL_law0_r16_in (cy_elim wsL_law0_r17_in (cy_elim wsL_law0_r18_in (cy_elim wsL_law0_r19_in (cy_elim wsL_law0_r20_in (cy_elim wsL_law0_r21_in (cy_elim wsL_law0_r22_in (cy_elim wsL_law0_r23_in (cy_elim wsL_law0_r24_in (cy_elim wsL_law0_r25_in wsL_law0_r26_in))))))))))))))))))))))))) cy_wsX20_in) cy_wsX30_in) cy_wsX10_in) cy_wsX00_in) (fun _ h => absurd h List.not_mem_nil)
theorem wsL_law_x0 : ∀ w ∈ (vx_atS RX2 61 "java/lang/IllegalArgumentException" ["java/lang/RuntimeException", "java/lang/Exception"]).filter goodWord, w ∈ lw_tbl := by decide +kernel
theorem wsL_law_x1 : ∀ w ∈ (vx_atS RX2 73 "java/lang/IllegalStateException" ["java/lang/RuntimeException", "java/lang/Exception"]).filter goodWord, w ∈ lw_tbl := by decide +kernel
theorem wsL_law_x2 : ∀ w ∈ (vx_atS RX2 82 "java/lang/IndexOutOfBoundsException" ["java/lang/RuntimeException", "java/lang/Exception"]).filter goodWord, w ∈ lw_tbl := by decide +kernel
theorem wsL_law_in : ∀ w ∈ wsL_law, w ∈ lw_tbl := fun w h => (List.mem_append.mp h).elim (fun h => (List.mem_append.mp h).elim (fun h => (List.mem_append.mp h).elim (fun h => wsL_law_in0 w h) (fun h => wsL_law_x0 w h)) (fun h => wsL_law_x1 w h)) (fun h => wsL_law_x2 w h)
theorem inlX0 : ∀ w ∈ wsX00, w ∈ wsL_law := fun _ h => List.mem_append_left _ (List.mem_append_left _ (List.mem_append_left _ (List.mem_append_left _ (List.mem_append_right _ h))))
theorem inX0 : ∀ w ∈ wsX00, w ∈ lw_tbl := fun w h => wsL_law_in w (inlX0 w h)
theorem inlX1 : ∀ w ∈ wsX10, w ∈ wsL_law := fun _ h => List.mem_append_left _ (List.mem_append_left _ (List.mem_append_left _ (List.mem_append_left _ (List.mem_append_left _ (List.mem_append_right _ h)))))
theorem inX1 : ∀ w ∈ wsX10, w ∈ lw_tbl := fun w h => wsL_law_in w (inlX1 w h)
theorem inlX2 : ∀ w ∈ wsX20, w ∈ wsL_law := fun _ h => List.mem_append_left _ (List.mem_append_left _ (List.mem_append_left _ (List.mem_append_left _ (List.mem_append_left _ (List.mem_append_left _ (List.mem_append_left _ (List.mem_append_right _ h)))))))
theorem inX2 : ∀ w ∈ wsX20, w ∈ lw_tbl := fun w h => wsL_law_in w (inlX2 w h)
theorem inlX3 : ∀ w ∈ wsX30, w ∈ wsL_law := fun _ h => List.mem_append_left _ (List.mem_append_left _ (List.mem_append_left _ (List.mem_append_left _ (List.mem_append_left _ (List.mem_append_left _ (List.mem_append_right _ h))))))
theorem inX3 : ∀ w ∈ wsX30, w ∈ lw_tbl := fun w h => wsL_law_in w (inlX3 w h)
theorem inJx145de : ∀ w ∈ wsJx145de0, w ∈ lw_tbl := by decide +kernel
theorem inJ9 : ∀ w ∈ wsJ90, w ∈ lw_tbl := by decide +kernel
theorem inJ0 : ∀ w ∈ wsJ00, w ∈ lw_tbl := by decide +kernel
theorem inJ10 : ∀ w ∈ wsJ100, w ∈ lw_tbl := by decide +kernel
theorem inJ7 : ∀ w ∈ wsJ70, w ∈ lw_tbl := by decide +kernel
theorem dX0_init_0 : decode cX0_init 0 = .ok (.aload_n 0, 1) := by decide +kernel
theorem dX0_init_1 : decode cX0_init 1 = .ok (.invokespecial 3, 3) := by decide +kernel
theorem dX0_init_4 : decode cX0_init 4 = .ok (.return_, 1) := by decide +kernel
theorem dX0_clear_0 : decode cX0_clear 0 = .ok (.aload_n 0, 1) := by decide +kernel
theorem dX0_clear_1 : decode cX0_clear 1 = .ok (.iconst (-1), 1) := by decide +kernel
theorem dX0_clear_2 : decode cX0_clear 2 = .ok (.putfield 9, 3) := by decide +kernel
theorem dX0_clear_5 : decode cX0_clear 5 = .ok (.aload_n 0, 1) := by decide +kernel
theorem dX0_clear_6 : decode cX0_clear 6 = .ok (.iconst (-1), 1) := by decide +kernel
theorem dX0_clear_7 : decode cX0_clear 7 = .ok (.putfield 15, 3) := by decide +kernel
theorem dX0_clear_10 : decode cX0_clear 10 = .ok (.aload_n 0, 1) := by decide +kernel
theorem dX0_clear_11 : decode cX0_clear 11 = .ok (.iconst (-1), 1) := by decide +kernel
theorem dX0_clear_12 : decode cX0_clear 12 = .ok (.putfield 18, 3) := by decide +kernel
theorem dX0_clear_15 : decode cX0_clear 15 = .ok (.aload_n 0, 1) := by decide +kernel
theorem dX0_clear_16 : decode cX0_clear 16 = .ok (.iconst (-1), 1) := by decide +kernel
theorem dX0_clear_17 : decode cX0_clear 17 = .ok (.putfield 21, 3) := by decide +kernel
theorem dX0_clear_20 : decode cX0_clear 20 = .ok (.aload_n 0, 1) := by decide +kernel
theorem dX0_clear_21 : decode cX0_clear 21 = .ok (.iconst 0, 1) := by decide +kernel
theorem dX0_clear_22 : decode cX0_clear 22 = .ok (.putfield 24, 3) := by decide +kernel
theorem dX0_clear_25 : decode cX0_clear 25 = .ok (.return_, 1) := by decide +kernel
theorem dX0_offer_0 : decode cX0_offer 0 = .ok (.iload 4, 2) := by decide +kernel
theorem dX0_offer_2 : decode cX0_offer 2 = .ok (.iload 5, 2) := by decide +kernel
theorem dX0_offer_4 : decode cX0_offer 4 = .ok (.isub, 1) := by decide +kernel
theorem dX0_offer_5 : decode cX0_offer 5 = .ok (.invokestatic 27, 3) := by decide +kernel
theorem dX0_offer_8 : decode cX0_offer 8 = .ok (.istore 6, 2) := by decide +kernel
theorem dX0_offer_10 : decode cX0_offer 10 = .ok (.aload_n 0, 1) := by decide +kernel
theorem dX0_offer_11 : decode cX0_offer 11 = .ok (.getfield 9, 3) := by decide +kernel
theorem dX0_offer_14 : decode cX0_offer 14 = .ok (.iconst (-1), 1) := by decide +kernel
theorem dX0_offer_15 : decode cX0_offer 15 = .ok (.if_icmp .eq 12, 3) := by decide +kernel
theorem dX0_offer_18 : decode cX0_offer 18 = .ok (.iload 6, 2) := by decide +kernel
theorem dX0_offer_20 : decode cX0_offer 20 = .ok (.aload_n 0, 1) := by decide +kernel
theorem dX0_offer_21 : decode cX0_offer 21 = .ok (.getfield 24, 3) := by decide +kernel
theorem dX0_offer_24 : decode cX0_offer 24 = .ok (.if_icmp .ge 30, 3) := by decide +kernel
theorem dX0_offer_27 : decode cX0_offer 27 = .ok (.aload_n 0, 1) := by decide +kernel
theorem dX0_offer_28 : decode cX0_offer 28 = .ok (.iload_n 1, 1) := by decide +kernel
theorem dX0_offer_29 : decode cX0_offer 29 = .ok (.putfield 9, 3) := by decide +kernel
theorem dX0_offer_32 : decode cX0_offer 32 = .ok (.aload_n 0, 1) := by decide +kernel
theorem dX0_offer_33 : decode cX0_offer 33 = .ok (.iload_n 2, 1) := by decide +kernel
theorem dX0_offer_34 : decode cX0_offer 34 = .ok (.putfield 15, 3) := by decide +kernel
theorem dX0_offer_37 : decode cX0_offer 37 = .ok (.aload_n 0, 1) := by decide +kernel
theorem dX0_offer_38 : decode cX0_offer 38 = .ok (.iload_n 3, 1) := by decide +kernel
theorem dX0_offer_39 : decode cX0_offer 39 = .ok (.putfield 18, 3) := by decide +kernel
theorem dX0_offer_42 : decode cX0_offer 42 = .ok (.aload_n 0, 1) := by decide +kernel
theorem dX0_offer_43 : decode cX0_offer 43 = .ok (.iload 4, 2) := by decide +kernel
theorem dX0_offer_45 : decode cX0_offer 45 = .ok (.putfield 21, 3) := by decide +kernel
theorem dX0_offer_48 : decode cX0_offer 48 = .ok (.aload_n 0, 1) := by decide +kernel
theorem dX0_offer_49 : decode cX0_offer 49 = .ok (.iload 6, 2) := by decide +kernel
theorem dX0_offer_51 : decode cX0_offer 51 = .ok (.putfield 24, 3) := by decide +kernel
theorem dX0_offer_54 : decode cX0_offer 54 = .ok (.return_, 1) := by decide +kernel
theorem dX1_init_0 : decode cX1_init 0 = .ok (.aload_n 0, 1) := by decide +kernel
theorem dX1_init_1 : decode cX1_init 1 = .ok (.invokespecial 3, 3) := by decide +kernel
theorem dX1_init_4 : decode cX1_init 4 = .ok (.aload_n 0, 1) := by decide +kernel
theorem dX1_init_5 : decode cX1_init 5 = .ok (.bipush 8, 2) := by decide +kernel
theorem dX1_init_7 : decode cX1_init 7 = .ok (.newarray .int, 2) := by decide +kernel
theorem dX1_init_9 : decode cX1_init 9 = .ok (.putfield 9, 3) := by decide +kernel
theorem dX1_init_12 : decode cX1_init 12 = .ok (.aload_n 0, 1) := by decide +kernel
theorem dX1_init_13 : decode cX1_init 13 = .ok (.iconst 5, 1) := by decide +kernel
theorem dX1_init_14 : decode cX1_init 14 = .ok (.newarray .int, 2) := by decide +kernel
theorem dX1_init_16 : decode cX1_init 16 = .ok (.putfield 15, 3) := by decide +kernel
theorem dX1_init_19 : decode cX1_init 19 = .ok (.return_, 1) := by decide +kernel
set_option maxRecDepth 20000 in
theorem ggX1_clear_J7_fill_53178 : GoodIn wsX1_clear wsJ7_fill_53178 := goodIn_r _ [13] (by decide +kernel) (by decide +kernel)
set_option maxRecDepth 20000 in
theorem gX1_clear_J7_fill_53178 : GoodIn wsX1_clear (va_wsS RX1 41 yJ7_fill_53178 wsJ7_fill_53178) := goodIn_app (goodIn_of _ (by decide +kernel)) ggX1_clear_J7_fill_53178
theorem dX1_clear_0 : decode cX1_clear 0 = .ok (.aload_n 0, 1) := by decide +kernel
theorem dX1_clear_1 : decode cX1_clear 1 = .ok (.iconst 0, 1) := by decide +kernel
theorem dX1_clear_2 : decode cX1_clear 2 = .ok (.putfield 18, 3) := by decide +kernel
theorem dX1_clear_5 : decode cX1_clear 5 = .ok (.aload_n 0, 1) := by decide +kernel
theorem dX1_clear_6 : decode cX1_clear 6 = .ok (.iconst 0, 1) := by decide +kernel
theorem dX1_clear_7 : decode cX1_clear 7 = .ok (.putfield 22, 3) := by decide +kernel
theorem dX1_clear_10 : decode cX1_clear 10 = .ok (.aload_n 0, 1) := by decide +kernel
theorem dX1_clear_11 : decode cX1_clear 11 = .ok (.iconst 0, 1) := by decide +kernel
theorem dX1_clear_12 : decode cX1_clear 12 = .ok (.putfield 26, 3) := by decide +kernel
theorem dX1_clear_15 : decode cX1_clear 15 = .ok (.aload_n 0, 1) := by decide +kernel
theorem dX1_clear_16 : decode cX1_clear 16 = .ok (.iconst 0, 1) := by decide +kernel
theorem dX1_clear_17 : decode cX1_clear 17 = .ok (.putfield 29, 3) := by decide +kernel
theorem dX1_clear_20 : decode cX1_clear 20 = .ok (.aload_n 0, 1) := by decide +kernel
theorem dX1_clear_21 : decode cX1_clear 21 = .ok (.iconst 0, 1) := by decide +kernel
theorem dX1_clear_22 : decode cX1_clear 22 = .ok (.putfield 32, 3) := by decide +kernel
theorem dX1_clear_25 : decode cX1_clear 25 = .ok (.aload_n 0, 1) := by decide +kernel
theorem dX1_clear_26 : decode cX1_clear 26 = .ok (.iconst 0, 1) := by decide +kernel
theorem dX1_clear_27 : decode cX1_clear 27 = .ok (.putfield 35, 3) := by decide +kernel
theorem dX1_clear_30 : decode cX1_clear 30 = .ok (.aload_n 0, 1) := by decide +kernel
theorem dX1_clear_31 : decode cX1_clear 31 = .ok (.iconst 0, 1) := by decide +kernel
theorem dX1_clear_32 : decode cX1_clear 32 = .ok (.putfield 38, 3) := by decide +kernel
theorem dX1_clear_35 : decode cX1_clear 35 = .ok (.aload_n 0, 1) := by decide +kernel
theorem dX1_clear_36 : decode cX1_clear 36 = .ok (.getfield 9, 3) := by decide +kernel
theorem dX1_clear_39 : decode cX1_clear 39 = .ok (.iconst 0, 1) := by decide +kernel
theorem dX1_clear_40 : decode cX1_clear 40 = .ok (.invokestatic 41, 3) := by decide +kernel
theorem dX1_clear_43 : decode cX1_clear 43 = .ok (.aload_n 0, 1) := by decide +kernel
theorem dX1_clear_44 : decode cX1_clear 44 = .ok (.getfield 15, 3) := by decide +kernel
theorem dX1_clear_47 : decode cX1_clear 47 = .ok (.iconst 0, 1) := by decide +kernel
theorem dX1_clear_48 : decode cX1_clear 48 = .ok (.invokestatic 41, 3) := by decide +kernel
theorem dX1_clear_51 : decode cX1_clear 51 = .ok (.return_, 1) := by decide +kernel
theorem dX1_copyFrom_0 : decode cX1_copyFrom 0 = .ok (.aload_n 0, 1) := by decide +kernel
theorem dX1_copyFrom_1 : decode cX1_copyFrom 1 = .ok (.aload_n 1, 1) := by decide +kernel
theorem dX1_copyFrom_2 : decode cX1_copyFrom 2 = .ok (.getfield 47, 3) := by decide +kernel
theorem dX1_copyFrom_5 : decode cX1_copyFrom 5 = .ok (.putfield 47, 3) := by decide +kernel
theorem dX1_copyFrom_8 : decode cX1_copyFrom 8 = .ok (.aload_n 0, 1) := by decide +kernel
theorem dX1_copyFrom_9 : decode cX1_copyFrom 9 = .ok (.aload_n 1, 1) := by decide +kernel
theorem dX1_copyFrom_10 : decode cX1_copyFrom 10 = .ok (.getfield 50, 3) := by decide +kernel
theorem dX1_copyFrom_13 : decode cX1_copyFrom 13 = .ok (.putfield 50, 3) := by decide +kernel
theorem dX1_copyFrom_16 : decode cX1_copyFrom 16 = .ok (.aload_n 0, 1) := by decide +kernel
theorem dX1_copyFrom_17 : decode cX1_copyFrom 17 = .ok (.aload_n 1, 1) := by decide +kernel
theorem dX1_copyFrom_18 : decode cX1_copyFrom 18 = .ok (.getfield 18, 3) := by decide +kernel
theorem dX1_copyFrom_21 : decode cX1_copyFrom 21 = .ok (.putfield 18, 3) := by decide +kernel
theorem dX1_copyFrom_24 : decode cX1_copyFrom 24 = .ok (.aload_n 0, 1) := by decide +kernel
theorem dX1_copyFrom_25 : decode cX1_copyFrom 25 = .ok (.aload_n 1, 1) := by decide +kernel
theorem dX1_copyFrom_26 : decode cX1_copyFrom 26 = .ok (.getfield 22, 3) := by decide +kernel
theorem dX1_copyFrom_29 : decode cX1_copyFrom 29 = .ok (.putfield 22, 3) := by decide +kernel
theorem dX1_copyFrom_32 : decode cX1_copyFrom 32 = .ok (.aload_n 0, 1) := by decide +kernel
theorem dX1_copyFrom_33 : decode cX1_copyFrom 33 = .ok (.aload_n 1, 1) := by decide +kernel
theorem dX1_copyFrom_34 : decode cX1_copyFrom 34 = .ok (.getfield 26, 3) := by decide +kernel
theorem dX1_copyFrom_37 : decode cX1_copyFrom 37 = .ok (.putfield 26, 3) := by decide +kernel
theorem dX1_copyFrom_40 : decode cX1_copyFrom 40 = .ok (.aload_n 0, 1) := by decide +kernel
theorem dX1_copyFrom_41 : decode cX1_copyFrom 41 = .ok (.aload_n 1, 1) := by decide +kernel
theorem dX1_copyFrom_42 : decode cX1_copyFrom 42 = .ok (.getfield 29, 3) := by decide +kernel
theorem dX1_copyFrom_45 : decode cX1_copyFrom 45 = .ok (.putfield 29, 3) := by decide +kernel
theorem dX1_copyFrom_48 : decode cX1_copyFrom 48 = .ok (.aload_n 0, 1) := by decide +kernel
theorem dX1_copyFrom_49 : decode cX1_copyFrom 49 = .ok (.aload_n 1, 1) := by decide +kernel
theorem dX1_copyFrom_50 : decode cX1_copyFrom 50 = .ok (.getfield 32, 3) := by decide +kernel
theorem dX1_copyFrom_53 : decode cX1_copyFrom 53 = .ok (.putfield 32, 3) := by decide +kernel
theorem dX1_copyFrom_56 : decode cX1_copyFrom 56 = .ok (.aload_n 0, 1) := by decide +kernel
theorem dX1_copyFrom_57 : decode cX1_copyFrom 57 = .ok (.aload_n 1, 1) := by decide +kernel
theorem dX1_copyFrom_58 : decode cX1_copyFrom 58 = .ok (.getfield 35, 3) := by decide +kernel
theorem dX1_copyFrom_61 : decode cX1_copyFrom 61 = .ok (.putfield 35, 3) := by decide +kernel
theorem dX1_copyFrom_64 : decode cX1_copyFrom 64 = .ok (.aload_n 0, 1) := by decide +kernel
theorem dX1_copyFrom_65 : decode cX1_copyFrom 65 = .ok (.aload_n 1, 1) := by decide +kernel
theorem dX1_copyFrom_66 : decode cX1_copyFrom 66 = .ok (.getfield 38, 3) := by decide +kernel
theorem dX1_copyFrom_69 : decode cX1_copyFrom 69 = .ok (.putfield 38, 3) := by decide +kernel
theorem dX1_copyFrom_72 : decode cX1_copyFrom 72 = .ok (.aload_n 1, 1) := by decide +kernel
theorem dX1_copyFrom_73 : decode cX1_copyFrom 73 = .ok (.getfield 9, 3) := by decide +kernel
theorem dX1_copyFrom_76 : decode cX1_copyFrom 76 = .ok (.iconst 0, 1) := by decide +kernel
theorem dX1_copyFrom_77 : decode cX1_copyFrom 77 = .ok (.aload_n 0, 1) := by decide +kernel
theorem dX1_copyFrom_78 : decode cX1_copyFrom 78 = .ok (.getfield 9, 3) := by decide +kernel
theorem dX1_copyFrom_81 : decode cX1_copyFrom 81 = .ok (.iconst 0, 1) := by decide +kernel
theorem dX1_copyFrom_82 : decode cX1_copyFrom 82 = .ok (.bipush 8, 2) := by decide +kernel
theorem dX1_copyFrom_84 : decode cX1_copyFrom 84 = .ok (.invokestatic 53, 3) := by decide +kernel
theorem dX1_copyFrom_87 : decode cX1_copyFrom 87 = .ok (.aload_n 1, 1) := by decide +kernel
theorem dX1_copyFrom_88 : decode cX1_copyFrom 88 = .ok (.getfield 15, 3) := by decide +kernel
theorem dX1_copyFrom_91 : decode cX1_copyFrom 91 = .ok (.iconst 0, 1) := by decide +kernel
theorem dX1_copyFrom_92 : decode cX1_copyFrom 92 = .ok (.aload_n 0, 1) := by decide +kernel
theorem dX1_copyFrom_93 : decode cX1_copyFrom 93 = .ok (.getfield 15, 3) := by decide +kernel
theorem dX1_copyFrom_96 : decode cX1_copyFrom 96 = .ok (.iconst 0, 1) := by decide +kernel
theorem dX1_copyFrom_97 : decode cX1_copyFrom 97 = .ok (.iconst 5, 1) := by decide +kernel
theorem dX1_copyFrom_98 : decode cX1_copyFrom 98 = .ok (.invokestatic 53, 3) := by decide +kernel
theorem dX1_copyFrom_101 : decode cX1_copyFrom 101 = .ok (.return_, 1) := by decide +kernel
theorem dX1_putOnHoops_0 : decode cX1_putOnHoops 0 = .ok (.aload_n 0, 1) := by decide +kernel
theorem dX1_putOnHoops_1 : decode cX1_putOnHoops 1 = .ok (.iload_n 1, 1) := by decide +kernel
theorem dX1_putOnHoops_2 : decode cX1_putOnHoops 2 = .ok (.putfield 26, 3) := by decide +kernel
theorem dX1_putOnHoops_5 : decode cX1_putOnHoops 5 = .ok (.iconst 0, 1) := by decide +kernel
theorem dX1_putOnHoops_6 : decode cX1_putOnHoops 6 = .ok (.istore_n 2, 1) := by decide +kernel
theorem dX1_putOnHoops_7 : decode cX1_putOnHoops 7 = .ok (.iload_n 2, 1) := by decide +kernel
theorem dX1_putOnHoops_8 : decode cX1_putOnHoops 8 = .ok (.aload_n 0, 1) := by decide +kernel
theorem dX1_putOnHoops_9 : decode cX1_putOnHoops 9 = .ok (.getfield 26, 3) := by decide +kernel
theorem dX1_putOnHoops_12 : decode cX1_putOnHoops 12 = .ok (.if_icmp .ge 22, 3) := by decide +kernel
theorem dX1_putOnHoops_15 : decode cX1_putOnHoops 15 = .ok (.iload_n 2, 1) := by decide +kernel
theorem dX1_putOnHoops_16 : decode cX1_putOnHoops 16 = .ok (.bipush 8, 2) := by decide +kernel
theorem dX1_putOnHoops_18 : decode cX1_putOnHoops 18 = .ok (.if_icmp .ge 16, 3) := by decide +kernel
theorem dX1_putOnHoops_21 : decode cX1_putOnHoops 21 = .ok (.aload_n 0, 1) := by decide +kernel
theorem dX1_putOnHoops_22 : decode cX1_putOnHoops 22 = .ok (.getfield 9, 3) := by decide +kernel
theorem dX1_putOnHoops_25 : decode cX1_putOnHoops 25 = .ok (.iload_n 2, 1) := by decide +kernel
theorem dX1_putOnHoops_26 : decode cX1_putOnHoops 26 = .ok (.iconst 3, 1) := by decide +kernel
theorem dX1_putOnHoops_27 : decode cX1_putOnHoops 27 = .ok (.iastore, 1) := by decide +kernel
theorem dX1_putOnHoops_28 : decode cX1_putOnHoops 28 = .ok (.iinc 2 1, 3) := by decide +kernel
theorem dX1_putOnHoops_31 : decode cX1_putOnHoops 31 = .ok (.goto (-24), 3) := by decide +kernel
theorem dX1_putOnHoops_34 : decode cX1_putOnHoops 34 = .ok (.return_, 1) := by decide +kernel
theorem dX1_held_0 : decode cX1_held 0 = .ok (.iconst 0, 1) := by decide +kernel
theorem dX1_held_1 : decode cX1_held 1 = .ok (.istore_n 1, 1) := by decide +kernel
theorem dX1_held_2 : decode cX1_held 2 = .ok (.iconst 0, 1) := by decide +kernel
theorem dX1_held_3 : decode cX1_held 3 = .ok (.istore_n 2, 1) := by decide +kernel
theorem dX1_held_4 : decode cX1_held 4 = .ok (.iload_n 2, 1) := by decide +kernel
theorem dX1_held_5 : decode cX1_held 5 = .ok (.iconst 5, 1) := by decide +kernel
theorem dX1_held_6 : decode cX1_held 6 = .ok (.if_icmp .ge 18, 3) := by decide +kernel
theorem dX1_held_9 : decode cX1_held 9 = .ok (.iload_n 1, 1) := by decide +kernel
theorem dX1_held_10 : decode cX1_held 10 = .ok (.aload_n 0, 1) := by decide +kernel
theorem dX1_held_11 : decode cX1_held 11 = .ok (.getfield 15, 3) := by decide +kernel
theorem dX1_held_14 : decode cX1_held 14 = .ok (.iload_n 2, 1) := by decide +kernel
theorem dX1_held_15 : decode cX1_held 15 = .ok (.iaload, 1) := by decide +kernel
theorem dX1_held_16 : decode cX1_held 16 = .ok (.iadd, 1) := by decide +kernel
theorem dX1_held_17 : decode cX1_held 17 = .ok (.istore_n 1, 1) := by decide +kernel
theorem dX1_held_18 : decode cX1_held 18 = .ok (.iinc 2 1, 3) := by decide +kernel
theorem dX1_held_21 : decode cX1_held 21 = .ok (.goto (-17), 3) := by decide +kernel
theorem dX1_held_24 : decode cX1_held 24 = .ok (.iload_n 1, 1) := by decide +kernel
theorem dX1_held_25 : decode cX1_held 25 = .ok (.ireturn, 1) := by decide +kernel
theorem dX1_allTensions_0 : decode cX1_allTensions 0 = .ok (.iconst 0, 1) := by decide +kernel
theorem dX1_allTensions_1 : decode cX1_allTensions 1 = .ok (.istore_n 1, 1) := by decide +kernel
theorem dX1_allTensions_2 : decode cX1_allTensions 2 = .ok (.iconst 0, 1) := by decide +kernel
theorem dX1_allTensions_3 : decode cX1_allTensions 3 = .ok (.istore_n 2, 1) := by decide +kernel
theorem dX1_allTensions_4 : decode cX1_allTensions 4 = .ok (.iload_n 2, 1) := by decide +kernel
theorem dX1_allTensions_5 : decode cX1_allTensions 5 = .ok (.bipush 8, 2) := by decide +kernel
theorem dX1_allTensions_7 : decode cX1_allTensions 7 = .ok (.if_icmp .ge 18, 3) := by decide +kernel
theorem dX1_allTensions_10 : decode cX1_allTensions 10 = .ok (.iload_n 1, 1) := by decide +kernel
theorem dX1_allTensions_11 : decode cX1_allTensions 11 = .ok (.aload_n 0, 1) := by decide +kernel
theorem dX1_allTensions_12 : decode cX1_allTensions 12 = .ok (.getfield 9, 3) := by decide +kernel
theorem dX1_allTensions_15 : decode cX1_allTensions 15 = .ok (.iload_n 2, 1) := by decide +kernel
theorem dX1_allTensions_16 : decode cX1_allTensions 16 = .ok (.iaload, 1) := by decide +kernel
theorem dX1_allTensions_17 : decode cX1_allTensions 17 = .ok (.iadd, 1) := by decide +kernel
theorem dX1_allTensions_18 : decode cX1_allTensions 18 = .ok (.istore_n 1, 1) := by decide +kernel
theorem dX1_allTensions_19 : decode cX1_allTensions 19 = .ok (.iinc 2 1, 3) := by decide +kernel
theorem dX1_allTensions_22 : decode cX1_allTensions 22 = .ok (.goto (-18), 3) := by decide +kernel
theorem dX1_allTensions_25 : decode cX1_allTensions 25 = .ok (.iload_n 1, 1) := by decide +kernel
theorem dX1_allTensions_26 : decode cX1_allTensions 26 = .ok (.ireturn, 1) := by decide +kernel
set_option maxRecDepth 20000 in
theorem ggX1_leak_X1_allTensions : GoodIn wsX1_leak wsX1_allTensions := goodIn_r _ [12, 13, 14, 15, 16, 17, 18, 19, 20, 21, 22, 23, 24] (by decide +kernel) (by decide +kernel)
set_option maxRecDepth 20000 in
theorem gX1_leak_X1_allTensions : GoodIn wsX1_leak (wsV RX1 59 RX1 yX1_allTensions wsX1_allTensions) := goodIn_app (goodIn_of _ (by decide +kernel)) ggX1_leak_X1_allTensions
theorem dX1_leak_0 : decode cX1_leak 0 = .ok (.aload_n 0, 1) := by decide +kernel
theorem dX1_leak_1 : decode cX1_leak 1 = .ok (.getfield 18, 3) := by decide +kernel
theorem dX1_leak_4 : decode cX1_leak 4 = .ok (.ifCond .ne 5, 3) := by decide +kernel
theorem dX1_leak_7 : decode cX1_leak 7 = .ok (.iconst 0, 1) := by decide +kernel
theorem dX1_leak_8 : decode cX1_leak 8 = .ok (.ireturn, 1) := by decide +kernel
theorem dX1_leak_9 : decode cX1_leak 9 = .ok (.iconst 0, 1) := by decide +kernel
theorem dX1_leak_10 : decode cX1_leak 10 = .ok (.bipush 30, 2) := by decide +kernel
theorem dX1_leak_12 : decode cX1_leak 12 = .ok (.bipush 10, 2) := by decide +kernel
theorem dX1_leak_14 : decode cX1_leak 14 = .ok (.aload_n 0, 1) := by decide +kernel
theorem dX1_leak_15 : decode cX1_leak 15 = .ok (.getfield 22, 3) := by decide +kernel
theorem dX1_leak_18 : decode cX1_leak 18 = .ok (.imul, 1) := by decide +kernel
theorem dX1_leak_19 : decode cX1_leak 19 = .ok (.iadd, 1) := by decide +kernel
theorem dX1_leak_20 : decode cX1_leak 20 = .ok (.iconst 2, 1) := by decide +kernel
theorem dX1_leak_21 : decode cX1_leak 21 = .ok (.aload_n 0, 1) := by decide +kernel
theorem dX1_leak_22 : decode cX1_leak 22 = .ok (.invokevirtual 59, 3) := by decide +kernel
theorem dX1_leak_25 : decode cX1_leak 25 = .ok (.imul, 1) := by decide +kernel
theorem dX1_leak_26 : decode cX1_leak 26 = .ok (.isub, 1) := by decide +kernel
theorem dX1_leak_27 : decode cX1_leak 27 = .ok (.aload_n 0, 1) := by decide +kernel
theorem dX1_leak_28 : decode cX1_leak 28 = .ok (.getfield 29, 3) := by decide +kernel
theorem dX1_leak_31 : decode cX1_leak 31 = .ok (.isub, 1) := by decide +kernel
theorem dX1_leak_32 : decode cX1_leak 32 = .ok (.invokestatic 63, 3) := by decide +kernel
theorem dX1_leak_35 : decode cX1_leak 35 = .ok (.ireturn, 1) := by decide +kernel
set_option maxRecDepth 20000 in
theorem ggX1_tasteOfOak_X1_held : GoodIn wsX1_tasteOfOak wsX1_held := goodIn_r _ [12, 13, 14, 15, 16, 17, 18, 19, 20, 21, 22, 23, 24] (by decide +kernel) (by decide +kernel)
set_option maxRecDepth 20000 in
theorem gX1_tasteOfOak_X1_held : GoodIn wsX1_tasteOfOak (wsV RX1 69 RX1 yX1_held wsX1_held) := goodIn_app (goodIn_of _ (by decide +kernel)) ggX1_tasteOfOak_X1_held
theorem dX1_tasteOfOak_0 : decode cX1_tasteOfOak 0 = .ok (.aload_n 0, 1) := by decide +kernel
theorem dX1_tasteOfOak_1 : decode cX1_tasteOfOak 1 = .ok (.invokevirtual 69, 3) := by decide +kernel
theorem dX1_tasteOfOak_4 : decode cX1_tasteOfOak 4 = .ok (.istore_n 1, 1) := by decide +kernel
theorem dX1_tasteOfOak_5 : decode cX1_tasteOfOak 5 = .ok (.iload_n 1, 1) := by decide +kernel
theorem dX1_tasteOfOak_6 : decode cX1_tasteOfOak 6 = .ok (.ifCond .ne 5, 3) := by decide +kernel
theorem dX1_tasteOfOak_9 : decode cX1_tasteOfOak 9 = .ok (.iconst 0, 1) := by decide +kernel
theorem dX1_tasteOfOak_10 : decode cX1_tasteOfOak 10 = .ok (.ireturn, 1) := by decide +kernel
theorem dX1_tasteOfOak_11 : decode cX1_tasteOfOak 11 = .ok (.ldc2_w 72, 3) := by decide +kernel
theorem dX1_tasteOfOak_14 : decode cX1_tasteOfOak 14 = .ok (.aload_n 0, 1) := by decide +kernel
theorem dX1_tasteOfOak_15 : decode cX1_tasteOfOak 15 = .ok (.getfield 38, 3) := by decide +kernel
theorem dX1_tasteOfOak_18 : decode cX1_tasteOfOak 18 = .ok (.i2l, 1) := by decide +kernel
theorem dX1_tasteOfOak_19 : decode cX1_tasteOfOak 19 = .ok (.ldc2_w 74, 3) := by decide +kernel
theorem dX1_tasteOfOak_22 : decode cX1_tasteOfOak 22 = .ok (.lmul, 1) := by decide +kernel
theorem dX1_tasteOfOak_23 : decode cX1_tasteOfOak 23 = .ok (.iload_n 1, 1) := by decide +kernel
theorem dX1_tasteOfOak_24 : decode cX1_tasteOfOak 24 = .ok (.i2l, 1) := by decide +kernel
theorem dX1_tasteOfOak_25 : decode cX1_tasteOfOak 25 = .ok (.ldiv, 1) := by decide +kernel
theorem dX1_tasteOfOak_26 : decode cX1_tasteOfOak 26 = .ok (.invokestatic 76, 3) := by decide +kernel
theorem dX1_tasteOfOak_29 : decode cX1_tasteOfOak 29 = .ok (.l2i, 1) := by decide +kernel
theorem dX1_tasteOfOak_30 : decode cX1_tasteOfOak 30 = .ok (.ireturn, 1) := by decide +kernel
set_option maxRecDepth 20000 in
theorem ggX1_canBeBlended_X1_held : GoodIn wsX1_canBeBlended wsX1_held := goodIn_r _ [7, 2, 8, 9, 10, 11, 12, 13, 14, 15, 16, 17, 18] (by decide +kernel) (by decide +kernel)
set_option maxRecDepth 20000 in
theorem gX1_canBeBlended_X1_held : GoodIn wsX1_canBeBlended (wsV RX1 69 RX1 yX1_held wsX1_held) := goodIn_app (goodIn_of _ (by decide +kernel)) ggX1_canBeBlended_X1_held
theorem dX1_canBeBlended_0 : decode cX1_canBeBlended 0 = .ok (.aload_n 0, 1) := by decide +kernel
theorem dX1_canBeBlended_1 : decode cX1_canBeBlended 1 = .ok (.getfield 18, 3) := by decide +kernel
theorem dX1_canBeBlended_4 : decode cX1_canBeBlended 4 = .ok (.ifCond .eq 23, 3) := by decide +kernel
theorem dX1_canBeBlended_7 : decode cX1_canBeBlended 7 = .ok (.aload_n 0, 1) := by decide +kernel
theorem dX1_canBeBlended_8 : decode cX1_canBeBlended 8 = .ok (.invokevirtual 69, 3) := by decide +kernel
theorem dX1_canBeBlended_11 : decode cX1_canBeBlended 11 = .ok (.ifCond .le 16, 3) := by decide +kernel
theorem dX1_canBeBlended_14 : decode cX1_canBeBlended 14 = .ok (.aload_n 0, 1) := by decide +kernel
theorem dX1_canBeBlended_15 : decode cX1_canBeBlended 15 = .ok (.getfield 15, 3) := by decide +kernel
theorem dX1_canBeBlended_18 : decode cX1_canBeBlended 18 = .ok (.iconst 4, 1) := by decide +kernel
theorem dX1_canBeBlended_19 : decode cX1_canBeBlended 19 = .ok (.iaload, 1) := by decide +kernel
theorem dX1_canBeBlended_20 : decode cX1_canBeBlended 20 = .ok (.ifCond .ne 7, 3) := by decide +kernel
theorem dX1_canBeBlended_23 : decode cX1_canBeBlended 23 = .ok (.iconst 1, 1) := by decide +kernel
theorem dX1_canBeBlended_24 : decode cX1_canBeBlended 24 = .ok (.goto 4, 3) := by decide +kernel
theorem dX1_canBeBlended_27 : decode cX1_canBeBlended 27 = .ok (.iconst 0, 1) := by decide +kernel
theorem dX1_canBeBlended_28 : decode cX1_canBeBlended 28 = .ok (.ireturn, 1) := by decide +kernel
set_option maxRecDepth 20000 in
theorem ggX1_countFilling_X1_held : GoodIn wsX1_countFilling wsX1_held := goodIn_r _ [6, 7, 8, 9, 10, 11, 12, 13, 14, 15, 16, 17, 18] (by decide +kernel) (by decide +kernel)
set_option maxRecDepth 20000 in
theorem gX1_countFilling_X1_held : GoodIn wsX1_countFilling (wsV RX1 69 RX1 yX1_held wsX1_held) := goodIn_app (goodIn_of _ (by decide +kernel)) ggX1_countFilling_X1_held
theorem dX1_countFilling_0 : decode cX1_countFilling 0 = .ok (.aload_n 0, 1) := by decide +kernel
theorem dX1_countFilling_1 : decode cX1_countFilling 1 = .ok (.invokevirtual 69, 3) := by decide +kernel
theorem dX1_countFilling_4 : decode cX1_countFilling 4 = .ok (.ifCond .ne 13, 3) := by decide +kernel
theorem dX1_countFilling_7 : decode cX1_countFilling 7 = .ok (.aload_n 0, 1) := by decide +kernel
theorem dX1_countFilling_8 : decode cX1_countFilling 8 = .ok (.dup, 1) := by decide +kernel
theorem dX1_countFilling_9 : decode cX1_countFilling 9 = .ok (.getfield 32, 3) := by decide +kernel
theorem dX1_countFilling_12 : decode cX1_countFilling 12 = .ok (.iconst 1, 1) := by decide +kernel
theorem dX1_countFilling_13 : decode cX1_countFilling 13 = .ok (.iadd, 1) := by decide +kernel
theorem dX1_countFilling_14 : decode cX1_countFilling 14 = .ok (.putfield 32, 3) := by decide +kernel
theorem dX1_countFilling_17 : decode cX1_countFilling 17 = .ok (.return_, 1) := by decide +kernel
set_option maxRecDepth 20000 in
theorem ggX1_live_X1_takeOak : GoodIn wsX1_live wsX1_takeOak := goodIn_r _ [6, 7, 8, 9, 10, 11, 5, 12, 13, 61, 62, 63, 64, 65, 66, 67, 68, 69, 70, 71] (by decide +kernel) (by decide +kernel)
set_option maxRecDepth 20000 in
theorem gX1_live_X1_takeOak : GoodIn wsX1_live (wsV RX1 80 RX1 yX1_takeOak wsX1_takeOak) := goodIn_app (goodIn_of _ (by decide +kernel)) ggX1_live_X1_takeOak
set_option maxRecDepth 20000 in
theorem ggX1_live_X1_swell : GoodIn wsX1_live wsX1_swell := goodIn_r _ [17, 18, 19, 20, 21, 22, 23, 24, 25, 26, 9, 10, 11, 5, 12, 13, 61, 62, 63, 64, 65, 66, 67, 68, 69, 70, 71] (by decide +kernel) (by decide +kernel)
set_option maxRecDepth 20000 in
theorem gX1_live_X1_swell : GoodIn wsX1_live (wsV RX1 83 RX1 yX1_swell wsX1_swell) := goodIn_app (goodIn_of _ (by decide +kernel)) ggX1_live_X1_swell
set_option maxRecDepth 20000 in
theorem ggX1_live_X1_leak : GoodIn wsX1_live wsX1_leak := goodIn_r _ [30, 1, 31, 19, 24, 25, 22, 26, 32, 33, 34, 5, 35, 36, 61, 62, 63, 64, 65, 66, 67, 68, 69, 70, 71] (by decide +kernel) (by decide +kernel)
set_option maxRecDepth 20000 in
theorem gX1_live_X1_leak : GoodIn wsX1_live (wsV RX1 86 RX1 yX1_leak wsX1_leak) := goodIn_app (goodIn_of _ (by decide +kernel)) ggX1_live_X1_leak
set_option maxRecDepth 20000 in
theorem ggX1_live_X1_lose : GoodIn wsX1_live wsX1_lose := goodIn_r _ [40, 13, 41, 42, 43, 22, 44, 45, 46, 47, 61, 62, 63, 64, 65, 66, 67, 68, 69, 70, 71] (by decide +kernel) (by decide +kernel)
set_option maxRecDepth 20000 in
theorem gX1_live_X1_lose : GoodIn wsX1_live (wsV RX1 89 RX1 yX1_lose wsX1_lose) := goodIn_app (goodIn_of _ (by decide +kernel)) ggX1_live_X1_lose
set_option maxRecDepth 20000 in
theorem ggX1_live_X1_takeAir : GoodIn wsX1_live wsX1_takeAir := goodIn_r _ [51, 18, 52, 13, 9, 10, 11, 5, 12, 53, 54, 55, 56, 61, 62, 63, 64, 65, 66, 67, 68, 69, 70, 71] (by decide +kernel) (by decide +kernel)
set_option maxRecDepth 20000 in
theorem gX1_live_X1_takeAir : GoodIn wsX1_live (wsV RX1 93 RX1 yX1_takeAir wsX1_takeAir) := goodIn_app (goodIn_of _ (by decide +kernel)) ggX1_live_X1_takeAir
set_option maxRecDepth 20000 in
theorem ggX1_live_X1_loosen : GoodIn wsX1_live wsX1_loosen := goodIn_r _ [60, 36, 24, 25, 22, 26, 61, 62, 63, 64, 65, 66, 67, 68, 69, 70, 71] (by decide +kernel) (by decide +kernel)
set_option maxRecDepth 20000 in
theorem gX1_live_X1_loosen : GoodIn wsX1_live (wsV RX1 96 RX1 yX1_loosen wsX1_loosen) := goodIn_app (goodIn_of _ (by decide +kernel)) ggX1_live_X1_loosen
theorem dX1_live_0 : decode cX1_live 0 = .ok (.aload_n 0, 1) := by decide +kernel
theorem dX1_live_1 : decode cX1_live 1 = .ok (.getfield 18, 3) := by decide +kernel
theorem dX1_live_4 : decode cX1_live 4 = .ok (.ifCond .ne 5, 3) := by decide +kernel
theorem dX1_live_7 : decode cX1_live 7 = .ok (.iconst 0, 1) := by decide +kernel
theorem dX1_live_8 : decode cX1_live 8 = .ok (.ireturn, 1) := by decide +kernel
theorem dX1_live_9 : decode cX1_live 9 = .ok (.aload_n 0, 1) := by decide +kernel
theorem dX1_live_10 : decode cX1_live 10 = .ok (.invokevirtual 80, 3) := by decide +kernel
theorem dX1_live_13 : decode cX1_live 13 = .ok (.aload_n 0, 1) := by decide +kernel
theorem dX1_live_14 : decode cX1_live 14 = .ok (.invokevirtual 83, 3) := by decide +kernel
theorem dX1_live_17 : decode cX1_live 17 = .ok (.aload_n 0, 1) := by decide +kernel
theorem dX1_live_18 : decode cX1_live 18 = .ok (.aload_n 0, 1) := by decide +kernel
theorem dX1_live_19 : decode cX1_live 19 = .ok (.invokevirtual 86, 3) := by decide +kernel
theorem dX1_live_22 : decode cX1_live 22 = .ok (.iconst 3, 1) := by decide +kernel
theorem dX1_live_23 : decode cX1_live 23 = .ok (.iadd, 1) := by decide +kernel
theorem dX1_live_24 : decode cX1_live 24 = .ok (.iload_n 1, 1) := by decide +kernel
theorem dX1_live_25 : decode cX1_live 25 = .ok (.iadd, 1) := by decide +kernel
theorem dX1_live_26 : decode cX1_live 26 = .ok (.invokevirtual 89, 3) := by decide +kernel
theorem dX1_live_29 : decode cX1_live 29 = .ok (.istore_n 3, 1) := by decide +kernel
theorem dX1_live_30 : decode cX1_live 30 = .ok (.aload_n 0, 1) := by decide +kernel
theorem dX1_live_31 : decode cX1_live 31 = .ok (.invokevirtual 93, 3) := by decide +kernel
theorem dX1_live_34 : decode cX1_live 34 = .ok (.iload_n 2, 1) := by decide +kernel
theorem dX1_live_35 : decode cX1_live 35 = .ok (.ifCond .eq 7, 3) := by decide +kernel
theorem dX1_live_38 : decode cX1_live 38 = .ok (.aload_n 0, 1) := by decide +kernel
theorem dX1_live_39 : decode cX1_live 39 = .ok (.invokevirtual 96, 3) := by decide +kernel
theorem dX1_live_42 : decode cX1_live 42 = .ok (.iload_n 3, 1) := by decide +kernel
theorem dX1_live_43 : decode cX1_live 43 = .ok (.ireturn, 1) := by decide +kernel
set_option maxRecDepth 20000 in
theorem ggX1_takeOak_X1_held : GoodIn wsX1_takeOak wsX1_held := goodIn_r _ [7, 8, 9, 10, 11, 12, 13, 14, 15, 16, 17, 18, 19] (by decide +kernel) (by decide +kernel)
set_option maxRecDepth 20000 in
theorem gX1_takeOak_X1_held : GoodIn wsX1_takeOak (wsV RX1 69 RX1 yX1_held wsX1_held) := goodIn_app (goodIn_of _ (by decide +kernel)) ggX1_takeOak_X1_held
theorem dX1_takeOak_0 : decode cX1_takeOak 0 = .ok (.aload_n 0, 1) := by decide +kernel
theorem dX1_takeOak_1 : decode cX1_takeOak 1 = .ok (.invokevirtual 69, 3) := by decide +kernel
theorem dX1_takeOak_4 : decode cX1_takeOak 4 = .ok (.bipush 100, 2) := by decide +kernel
theorem dX1_takeOak_6 : decode cX1_takeOak 6 = .ok (.idiv, 1) := by decide +kernel
theorem dX1_takeOak_7 : decode cX1_takeOak 7 = .ok (.bipush 8, 2) := by decide +kernel
theorem dX1_takeOak_9 : decode cX1_takeOak 9 = .ok (.aload_n 0, 1) := by decide +kernel
theorem dX1_takeOak_10 : decode cX1_takeOak 10 = .ok (.getfield 32, 3) := by decide +kernel
theorem dX1_takeOak_13 : decode cX1_takeOak 13 = .ok (.isub, 1) := by decide +kernel
theorem dX1_takeOak_14 : decode cX1_takeOak 14 = .ok (.imul, 1) := by decide +kernel
theorem dX1_takeOak_15 : decode cX1_takeOak 15 = .ok (.istore_n 1, 1) := by decide +kernel
theorem dX1_takeOak_16 : decode cX1_takeOak 16 = .ok (.iload_n 1, 1) := by decide +kernel
theorem dX1_takeOak_17 : decode cX1_takeOak 17 = .ok (.ifCond .le 13, 3) := by decide +kernel
theorem dX1_takeOak_20 : decode cX1_takeOak 20 = .ok (.aload_n 0, 1) := by decide +kernel
theorem dX1_takeOak_21 : decode cX1_takeOak 21 = .ok (.dup, 1) := by decide +kernel
theorem dX1_takeOak_22 : decode cX1_takeOak 22 = .ok (.getfield 38, 3) := by decide +kernel
theorem dX1_takeOak_25 : decode cX1_takeOak 25 = .ok (.iload_n 1, 1) := by decide +kernel
theorem dX1_takeOak_26 : decode cX1_takeOak 26 = .ok (.iadd, 1) := by decide +kernel
theorem dX1_takeOak_27 : decode cX1_takeOak 27 = .ok (.putfield 38, 3) := by decide +kernel
theorem dX1_takeOak_30 : decode cX1_takeOak 30 = .ok (.return_, 1) := by decide +kernel
set_option maxRecDepth 20000 in
theorem ggX1_swell_X1_held : GoodIn wsX1_swell wsX1_held := goodIn_r _ [14, 15, 16, 17, 18, 19, 20, 21, 22, 23, 24, 25, 26] (by decide +kernel) (by decide +kernel)
set_option maxRecDepth 20000 in
theorem gX1_swell_X1_held : GoodIn wsX1_swell (wsV RX1 69 RX1 yX1_held wsX1_held) := goodIn_app (goodIn_of _ (by decide +kernel)) ggX1_swell_X1_held
theorem dX1_swell_0 : decode cX1_swell 0 = .ok (.iconst 2, 1) := by decide +kernel
theorem dX1_swell_1 : decode cX1_swell 1 = .ok (.aload_n 0, 1) := by decide +kernel
theorem dX1_swell_2 : decode cX1_swell 2 = .ok (.invokevirtual 69, 3) := by decide +kernel
theorem dX1_swell_5 : decode cX1_swell 5 = .ok (.imul, 1) := by decide +kernel
theorem dX1_swell_6 : decode cX1_swell 6 = .ok (.aload_n 0, 1) := by decide +kernel
theorem dX1_swell_7 : decode cX1_swell 7 = .ok (.getfield 50, 3) := by decide +kernel
theorem dX1_swell_10 : decode cX1_swell 10 = .ok (.if_icmp .lt 21, 3) := by decide +kernel
theorem dX1_swell_13 : decode cX1_swell 13 = .ok (.aload_n 0, 1) := by decide +kernel
theorem dX1_swell_14 : decode cX1_swell 14 = .ok (.bipush 20, 2) := by decide +kernel
theorem dX1_swell_16 : decode cX1_swell 16 = .ok (.aload_n 0, 1) := by decide +kernel
theorem dX1_swell_17 : decode cX1_swell 17 = .ok (.getfield 29, 3) := by decide +kernel
theorem dX1_swell_20 : decode cX1_swell 20 = .ok (.iconst 5, 1) := by decide +kernel
theorem dX1_swell_21 : decode cX1_swell 21 = .ok (.iadd, 1) := by decide +kernel
theorem dX1_swell_22 : decode cX1_swell 22 = .ok (.invokestatic 99, 3) := by decide +kernel
theorem dX1_swell_25 : decode cX1_swell 25 = .ok (.putfield 29, 3) := by decide +kernel
theorem dX1_swell_28 : decode cX1_swell 28 = .ok (.goto 17, 3) := by decide +kernel
theorem dX1_swell_31 : decode cX1_swell 31 = .ok (.aload_n 0, 1) := by decide +kernel
theorem dX1_swell_32 : decode cX1_swell 32 = .ok (.iconst 0, 1) := by decide +kernel
theorem dX1_swell_33 : decode cX1_swell 33 = .ok (.aload_n 0, 1) := by decide +kernel
theorem dX1_swell_34 : decode cX1_swell 34 = .ok (.getfield 29, 3) := by decide +kernel
theorem dX1_swell_37 : decode cX1_swell 37 = .ok (.iconst 3, 1) := by decide +kernel
theorem dX1_swell_38 : decode cX1_swell 38 = .ok (.isub, 1) := by decide +kernel
theorem dX1_swell_39 : decode cX1_swell 39 = .ok (.invokestatic 63, 3) := by decide +kernel
theorem dX1_swell_42 : decode cX1_swell 42 = .ok (.putfield 29, 3) := by decide +kernel
theorem dX1_swell_45 : decode cX1_swell 45 = .ok (.return_, 1) := by decide +kernel
theorem dX1_lose_0 : decode cX1_lose 0 = .ok (.iconst 0, 1) := by decide +kernel
theorem dX1_lose_1 : decode cX1_lose 1 = .ok (.istore_n 2, 1) := by decide +kernel
theorem dX1_lose_2 : decode cX1_lose 2 = .ok (.iconst 0, 1) := by decide +kernel
theorem dX1_lose_3 : decode cX1_lose 3 = .ok (.istore_n 3, 1) := by decide +kernel
theorem dX1_lose_4 : decode cX1_lose 4 = .ok (.iload_n 3, 1) := by decide +kernel
theorem dX1_lose_5 : decode cX1_lose 5 = .ok (.iconst 5, 1) := by decide +kernel
theorem dX1_lose_6 : decode cX1_lose 6 = .ok (.if_icmp .ge 65, 3) := by decide +kernel
theorem dX1_lose_9 : decode cX1_lose 9 = .ok (.aload_n 0, 1) := by decide +kernel
theorem dX1_lose_10 : decode cX1_lose 10 = .ok (.getfield 15, 3) := by decide +kernel
theorem dX1_lose_13 : decode cX1_lose 13 = .ok (.iload_n 3, 1) := by decide +kernel
theorem dX1_lose_14 : decode cX1_lose 14 = .ok (.iaload, 1) := by decide +kernel
theorem dX1_lose_15 : decode cX1_lose 15 = .ok (.istore 4, 2) := by decide +kernel
theorem dX1_lose_17 : decode cX1_lose 17 = .ok (.iload 4, 2) := by decide +kernel
theorem dX1_lose_19 : decode cX1_lose 19 = .ok (.ifCond .le 46, 3) := by decide +kernel
theorem dX1_lose_22 : decode cX1_lose 22 = .ok (.iload 4, 2) := by decide +kernel
theorem dX1_lose_24 : decode cX1_lose 24 = .ok (.i2l, 1) := by decide +kernel
theorem dX1_lose_25 : decode cX1_lose 25 = .ok (.iload_n 1, 1) := by decide +kernel
theorem dX1_lose_26 : decode cX1_lose 26 = .ok (.i2l, 1) := by decide +kernel
theorem dX1_lose_27 : decode cX1_lose 27 = .ok (.lmul, 1) := by decide +kernel
theorem dX1_lose_28 : decode cX1_lose 28 = .ok (.ldc2_w 74, 3) := by decide +kernel
theorem dX1_lose_31 : decode cX1_lose 31 = .ok (.ldiv, 1) := by decide +kernel
theorem dX1_lose_32 : decode cX1_lose 32 = .ok (.lstore 5, 2) := by decide +kernel
theorem dX1_lose_34 : decode cX1_lose 34 = .ok (.iload 4, 2) := by decide +kernel
theorem dX1_lose_36 : decode cX1_lose 36 = .ok (.i2l, 1) := by decide +kernel
theorem dX1_lose_37 : decode cX1_lose 37 = .ok (.lconst 1, 1) := by decide +kernel
theorem dX1_lose_38 : decode cX1_lose 38 = .ok (.lload 5, 2) := by decide +kernel
theorem dX1_lose_40 : decode cX1_lose 40 = .ok (.invokestatic 101, 3) := by decide +kernel
theorem dX1_lose_43 : decode cX1_lose 43 = .ok (.invokestatic 76, 3) := by decide +kernel
theorem dX1_lose_46 : decode cX1_lose 46 = .ok (.l2i, 1) := by decide +kernel
theorem dX1_lose_47 : decode cX1_lose 47 = .ok (.istore 7, 2) := by decide +kernel
theorem dX1_lose_49 : decode cX1_lose 49 = .ok (.aload_n 0, 1) := by decide +kernel
theorem dX1_lose_50 : decode cX1_lose 50 = .ok (.getfield 15, 3) := by decide +kernel
theorem dX1_lose_53 : decode cX1_lose 53 = .ok (.iload_n 3, 1) := by decide +kernel
theorem dX1_lose_54 : decode cX1_lose 54 = .ok (.iload 4, 2) := by decide +kernel
theorem dX1_lose_56 : decode cX1_lose 56 = .ok (.iload 7, 2) := by decide +kernel
theorem dX1_lose_58 : decode cX1_lose 58 = .ok (.isub, 1) := by decide +kernel
theorem dX1_lose_59 : decode cX1_lose 59 = .ok (.iastore, 1) := by decide +kernel
theorem dX1_lose_60 : decode cX1_lose 60 = .ok (.iload_n 2, 1) := by decide +kernel
theorem dX1_lose_61 : decode cX1_lose 61 = .ok (.iload 7, 2) := by decide +kernel
theorem dX1_lose_63 : decode cX1_lose 63 = .ok (.iadd, 1) := by decide +kernel
theorem dX1_lose_64 : decode cX1_lose 64 = .ok (.istore_n 2, 1) := by decide +kernel
theorem dX1_lose_65 : decode cX1_lose 65 = .ok (.iinc 3 1, 3) := by decide +kernel
theorem dX1_lose_68 : decode cX1_lose 68 = .ok (.goto (-64), 3) := by decide +kernel
theorem dX1_lose_71 : decode cX1_lose 71 = .ok (.iload_n 2, 1) := by decide +kernel
theorem dX1_lose_72 : decode cX1_lose 72 = .ok (.ireturn, 1) := by decide +kernel
set_option maxRecDepth 20000 in
theorem ggX1_takeAir_X1_held : GoodIn wsX1_takeAir wsX1_held := goodIn_r _ [8, 3, 13, 14, 15, 16, 17, 18, 19, 20, 21, 22, 23] (by decide +kernel) (by decide +kernel)
set_option maxRecDepth 20000 in
theorem gX1_takeAir_X1_held : GoodIn wsX1_takeAir (wsV RX1 69 RX1 yX1_held wsX1_held) := goodIn_app (goodIn_of _ (by decide +kernel)) ggX1_takeAir_X1_held
set_option maxRecDepth 20000 in
theorem ggX1_takeAir_J7_fill_53178 : GoodIn wsX1_takeAir wsJ7_fill_53178 := goodIn_r _ [12] (by decide +kernel) (by decide +kernel)
set_option maxRecDepth 20000 in
theorem gX1_takeAir_J7_fill_53178 : GoodIn wsX1_takeAir (va_wsS RX1 41 yJ7_fill_53178 wsJ7_fill_53178) := goodIn_app (goodIn_of _ (by decide +kernel)) ggX1_takeAir_J7_fill_53178
theorem dX1_takeAir_0 : decode cX1_takeAir 0 = .ok (.aload_n 0, 1) := by decide +kernel
theorem dX1_takeAir_1 : decode cX1_takeAir 1 = .ok (.invokevirtual 69, 3) := by decide +kernel
theorem dX1_takeAir_4 : decode cX1_takeAir 4 = .ok (.istore_n 1, 1) := by decide +kernel
theorem dX1_takeAir_5 : decode cX1_takeAir 5 = .ok (.iload_n 1, 1) := by decide +kernel
theorem dX1_takeAir_6 : decode cX1_takeAir 6 = .ok (.ifCond .le 28, 3) := by decide +kernel
theorem dX1_takeAir_9 : decode cX1_takeAir 9 = .ok (.iconst 5, 1) := by decide +kernel
theorem dX1_takeAir_10 : decode cX1_takeAir 10 = .ok (.iload_n 1, 1) := by decide +kernel
theorem dX1_takeAir_11 : decode cX1_takeAir 11 = .ok (.imul, 1) := by decide +kernel
theorem dX1_takeAir_12 : decode cX1_takeAir 12 = .ok (.iconst 4, 1) := by decide +kernel
theorem dX1_takeAir_13 : decode cX1_takeAir 13 = .ok (.aload_n 0, 1) := by decide +kernel
theorem dX1_takeAir_14 : decode cX1_takeAir 14 = .ok (.getfield 50, 3) := by decide +kernel
theorem dX1_takeAir_17 : decode cX1_takeAir 17 = .ok (.imul, 1) := by decide +kernel
theorem dX1_takeAir_18 : decode cX1_takeAir 18 = .ok (.if_icmp .ge 16, 3) := by decide +kernel
theorem dX1_takeAir_21 : decode cX1_takeAir 21 = .ok (.aload_n 0, 1) := by decide +kernel
theorem dX1_takeAir_22 : decode cX1_takeAir 22 = .ok (.dup, 1) := by decide +kernel
theorem dX1_takeAir_23 : decode cX1_takeAir 23 = .ok (.getfield 35, 3) := by decide +kernel
theorem dX1_takeAir_26 : decode cX1_takeAir 26 = .ok (.iconst 1, 1) := by decide +kernel
theorem dX1_takeAir_27 : decode cX1_takeAir 27 = .ok (.iadd, 1) := by decide +kernel
theorem dX1_takeAir_28 : decode cX1_takeAir 28 = .ok (.putfield 35, 3) := by decide +kernel
theorem dX1_takeAir_31 : decode cX1_takeAir 31 = .ok (.goto 8, 3) := by decide +kernel
theorem dX1_takeAir_34 : decode cX1_takeAir 34 = .ok (.aload_n 0, 1) := by decide +kernel
theorem dX1_takeAir_35 : decode cX1_takeAir 35 = .ok (.iconst 0, 1) := by decide +kernel
theorem dX1_takeAir_36 : decode cX1_takeAir 36 = .ok (.putfield 35, 3) := by decide +kernel
theorem dX1_takeAir_39 : decode cX1_takeAir 39 = .ok (.aload_n 0, 1) := by decide +kernel
theorem dX1_takeAir_40 : decode cX1_takeAir 40 = .ok (.getfield 35, 3) := by decide +kernel
theorem dX1_takeAir_43 : decode cX1_takeAir 43 = .ok (.bipush 6, 2) := by decide +kernel
theorem dX1_takeAir_45 : decode cX1_takeAir 45 = .ok (.if_icmp .ne 23, 3) := by decide +kernel
theorem dX1_takeAir_48 : decode cX1_takeAir 48 = .ok (.aload_n 0, 1) := by decide +kernel
theorem dX1_takeAir_49 : decode cX1_takeAir 49 = .ok (.getfield 15, 3) := by decide +kernel
theorem dX1_takeAir_52 : decode cX1_takeAir 52 = .ok (.iconst 0, 1) := by decide +kernel
theorem dX1_takeAir_53 : decode cX1_takeAir 53 = .ok (.invokestatic 41, 3) := by decide +kernel
theorem dX1_takeAir_56 : decode cX1_takeAir 56 = .ok (.aload_n 0, 1) := by decide +kernel
theorem dX1_takeAir_57 : decode cX1_takeAir 57 = .ok (.getfield 15, 3) := by decide +kernel
theorem dX1_takeAir_60 : decode cX1_takeAir 60 = .ok (.iconst 4, 1) := by decide +kernel
theorem dX1_takeAir_61 : decode cX1_takeAir 61 = .ok (.iload_n 1, 1) := by decide +kernel
theorem dX1_takeAir_62 : decode cX1_takeAir 62 = .ok (.iastore, 1) := by decide +kernel
theorem dX1_takeAir_63 : decode cX1_takeAir 63 = .ok (.aload_n 0, 1) := by decide +kernel
theorem dX1_takeAir_64 : decode cX1_takeAir 64 = .ok (.iconst 0, 1) := by decide +kernel
theorem dX1_takeAir_65 : decode cX1_takeAir 65 = .ok (.putfield 35, 3) := by decide +kernel
theorem dX1_takeAir_68 : decode cX1_takeAir 68 = .ok (.return_, 1) := by decide +kernel
theorem dX1_loosen_0 : decode cX1_loosen 0 = .ok (.iconst 0, 1) := by decide +kernel
theorem dX1_loosen_1 : decode cX1_loosen 1 = .ok (.istore_n 1, 1) := by decide +kernel
theorem dX1_loosen_2 : decode cX1_loosen 2 = .ok (.iload_n 1, 1) := by decide +kernel
theorem dX1_loosen_3 : decode cX1_loosen 3 = .ok (.bipush 8, 2) := by decide +kernel
theorem dX1_loosen_5 : decode cX1_loosen 5 = .ok (.if_icmp .ge 27, 3) := by decide +kernel
theorem dX1_loosen_8 : decode cX1_loosen 8 = .ok (.aload_n 0, 1) := by decide +kernel
theorem dX1_loosen_9 : decode cX1_loosen 9 = .ok (.getfield 9, 3) := by decide +kernel
theorem dX1_loosen_12 : decode cX1_loosen 12 = .ok (.iload_n 1, 1) := by decide +kernel
theorem dX1_loosen_13 : decode cX1_loosen 13 = .ok (.iconst 0, 1) := by decide +kernel
theorem dX1_loosen_14 : decode cX1_loosen 14 = .ok (.aload_n 0, 1) := by decide +kernel
theorem dX1_loosen_15 : decode cX1_loosen 15 = .ok (.getfield 9, 3) := by decide +kernel
theorem dX1_loosen_18 : decode cX1_loosen 18 = .ok (.iload_n 1, 1) := by decide +kernel
theorem dX1_loosen_19 : decode cX1_loosen 19 = .ok (.iaload, 1) := by decide +kernel
theorem dX1_loosen_20 : decode cX1_loosen 20 = .ok (.iconst 1, 1) := by decide +kernel
theorem dX1_loosen_21 : decode cX1_loosen 21 = .ok (.isub, 1) := by decide +kernel
theorem dX1_loosen_22 : decode cX1_loosen 22 = .ok (.invokestatic 63, 3) := by decide +kernel
theorem dX1_loosen_25 : decode cX1_loosen 25 = .ok (.iastore, 1) := by decide +kernel
theorem dX1_loosen_26 : decode cX1_loosen 26 = .ok (.iinc 1 1, 3) := by decide +kernel
theorem dX1_loosen_29 : decode cX1_loosen 29 = .ok (.goto (-27), 3) := by decide +kernel
theorem dX1_loosen_32 : decode cX1_loosen 32 = .ok (.return_, 1) := by decide +kernel
set_option maxRecDepth 20000 in
theorem ggX1_moveTo_X1_moveLiquid : GoodIn wsX1_moveTo wsX1_moveLiquid := goodIn_r _ [7, 1, 8, 9, 10, 11, 12, 13, 14, 15, 16, 17, 18] (by decide +kernel) (by decide +kernel)
set_option maxRecDepth 20000 in
theorem gX1_moveTo_X1_moveLiquid : GoodIn wsX1_moveTo (wsV RX1 103 RX1 yX1_moveLiquid wsX1_moveLiquid) := goodIn_app (goodIn_of _ (by decide +kernel)) ggX1_moveTo_X1_moveLiquid
theorem dX1_moveTo_0 : decode cX1_moveTo 0 = .ok (.iload_n 3, 1) := by decide +kernel
theorem dX1_moveTo_1 : decode cX1_moveTo 1 = .ok (.ifCond .gt 4, 3) := by decide +kernel
theorem dX1_moveTo_4 : decode cX1_moveTo 4 = .ok (.return_, 1) := by decide +kernel
theorem dX1_moveTo_5 : decode cX1_moveTo 5 = .ok (.iconst 0, 1) := by decide +kernel
theorem dX1_moveTo_6 : decode cX1_moveTo 6 = .ok (.istore 4, 2) := by decide +kernel
theorem dX1_moveTo_8 : decode cX1_moveTo 8 = .ok (.iconst 0, 1) := by decide +kernel
theorem dX1_moveTo_9 : decode cX1_moveTo 9 = .ok (.istore 5, 2) := by decide +kernel
theorem dX1_moveTo_11 : decode cX1_moveTo 11 = .ok (.iload 5, 2) := by decide +kernel
theorem dX1_moveTo_13 : decode cX1_moveTo 13 = .ok (.iconst 5, 1) := by decide +kernel
theorem dX1_moveTo_14 : decode cX1_moveTo 14 = .ok (.if_icmp .ge 42, 3) := by decide +kernel
theorem dX1_moveTo_17 : decode cX1_moveTo 17 = .ok (.aload_n 0, 1) := by decide +kernel
theorem dX1_moveTo_18 : decode cX1_moveTo 18 = .ok (.getfield 15, 3) := by decide +kernel
theorem dX1_moveTo_21 : decode cX1_moveTo 21 = .ok (.iload 5, 2) := by decide +kernel
theorem dX1_moveTo_23 : decode cX1_moveTo 23 = .ok (.iaload, 1) := by decide +kernel
theorem dX1_moveTo_24 : decode cX1_moveTo 24 = .ok (.i2l, 1) := by decide +kernel
theorem dX1_moveTo_25 : decode cX1_moveTo 25 = .ok (.iload_n 2, 1) := by decide +kernel
theorem dX1_moveTo_26 : decode cX1_moveTo 26 = .ok (.i2l, 1) := by decide +kernel
theorem dX1_moveTo_27 : decode cX1_moveTo 27 = .ok (.lmul, 1) := by decide +kernel
theorem dX1_moveTo_28 : decode cX1_moveTo 28 = .ok (.iload_n 3, 1) := by decide +kernel
theorem dX1_moveTo_29 : decode cX1_moveTo 29 = .ok (.i2l, 1) := by decide +kernel
theorem dX1_moveTo_30 : decode cX1_moveTo 30 = .ok (.ldiv, 1) := by decide +kernel
theorem dX1_moveTo_31 : decode cX1_moveTo 31 = .ok (.l2i, 1) := by decide +kernel
theorem dX1_moveTo_32 : decode cX1_moveTo 32 = .ok (.istore 6, 2) := by decide +kernel
theorem dX1_moveTo_34 : decode cX1_moveTo 34 = .ok (.aload_n 0, 1) := by decide +kernel
theorem dX1_moveTo_35 : decode cX1_moveTo 35 = .ok (.aload_n 1, 1) := by decide +kernel
theorem dX1_moveTo_36 : decode cX1_moveTo 36 = .ok (.iload 5, 2) := by decide +kernel
theorem dX1_moveTo_38 : decode cX1_moveTo 38 = .ok (.iload 6, 2) := by decide +kernel
theorem dX1_moveTo_40 : decode cX1_moveTo 40 = .ok (.invokevirtual 103, 3) := by decide +kernel
theorem dX1_moveTo_43 : decode cX1_moveTo 43 = .ok (.iload 4, 2) := by decide +kernel
theorem dX1_moveTo_45 : decode cX1_moveTo 45 = .ok (.iload 6, 2) := by decide +kernel
theorem dX1_moveTo_47 : decode cX1_moveTo 47 = .ok (.iadd, 1) := by decide +kernel
theorem dX1_moveTo_48 : decode cX1_moveTo 48 = .ok (.istore 4, 2) := by decide +kernel
theorem dX1_moveTo_50 : decode cX1_moveTo 50 = .ok (.iinc 5 1, 3) := by decide +kernel
theorem dX1_moveTo_53 : decode cX1_moveTo 53 = .ok (.goto (-42), 3) := by decide +kernel
theorem dX1_moveTo_56 : decode cX1_moveTo 56 = .ok (.iconst 0, 1) := by decide +kernel
theorem dX1_moveTo_57 : decode cX1_moveTo 57 = .ok (.istore 5, 2) := by decide +kernel
theorem dX1_moveTo_59 : decode cX1_moveTo 59 = .ok (.iload 5, 2) := by decide +kernel
theorem dX1_moveTo_61 : decode cX1_moveTo 61 = .ok (.iconst 5, 1) := by decide +kernel
theorem dX1_moveTo_62 : decode cX1_moveTo 62 = .ok (.if_icmp .ge 36, 3) := by decide +kernel
theorem dX1_moveTo_65 : decode cX1_moveTo 65 = .ok (.iload 4, 2) := by decide +kernel
theorem dX1_moveTo_67 : decode cX1_moveTo 67 = .ok (.iload_n 2, 1) := by decide +kernel
theorem dX1_moveTo_68 : decode cX1_moveTo 68 = .ok (.if_icmp .ge 30, 3) := by decide +kernel
theorem dX1_moveTo_71 : decode cX1_moveTo 71 = .ok (.aload_n 0, 1) := by decide +kernel
theorem dX1_moveTo_72 : decode cX1_moveTo 72 = .ok (.getfield 15, 3) := by decide +kernel
theorem dX1_moveTo_75 : decode cX1_moveTo 75 = .ok (.iload 5, 2) := by decide +kernel
theorem dX1_moveTo_77 : decode cX1_moveTo 77 = .ok (.iaload, 1) := by decide +kernel
theorem dX1_moveTo_78 : decode cX1_moveTo 78 = .ok (.ifCond .le 14, 3) := by decide +kernel
theorem dX1_moveTo_81 : decode cX1_moveTo 81 = .ok (.aload_n 0, 1) := by decide +kernel
theorem dX1_moveTo_82 : decode cX1_moveTo 82 = .ok (.aload_n 1, 1) := by decide +kernel
theorem dX1_moveTo_83 : decode cX1_moveTo 83 = .ok (.iload 5, 2) := by decide +kernel
theorem dX1_moveTo_85 : decode cX1_moveTo 85 = .ok (.iconst 1, 1) := by decide +kernel
theorem dX1_moveTo_86 : decode cX1_moveTo 86 = .ok (.invokevirtual 103, 3) := by decide +kernel
theorem dX1_moveTo_89 : decode cX1_moveTo 89 = .ok (.iinc 4 1, 3) := by decide +kernel
theorem dX1_moveTo_92 : decode cX1_moveTo 92 = .ok (.iinc 5 1, 3) := by decide +kernel
theorem dX1_moveTo_95 : decode cX1_moveTo 95 = .ok (.goto (-36), 3) := by decide +kernel
theorem dX1_moveTo_98 : decode cX1_moveTo 98 = .ok (.aload_n 0, 1) := by decide +kernel
theorem dX1_moveTo_99 : decode cX1_moveTo 99 = .ok (.getfield 38, 3) := by decide +kernel
theorem dX1_moveTo_102 : decode cX1_moveTo 102 = .ok (.i2l, 1) := by decide +kernel
theorem dX1_moveTo_103 : decode cX1_moveTo 103 = .ok (.iload_n 2, 1) := by decide +kernel
theorem dX1_moveTo_104 : decode cX1_moveTo 104 = .ok (.i2l, 1) := by decide +kernel
theorem dX1_moveTo_105 : decode cX1_moveTo 105 = .ok (.lmul, 1) := by decide +kernel
theorem dX1_moveTo_106 : decode cX1_moveTo 106 = .ok (.iload_n 3, 1) := by decide +kernel
theorem dX1_moveTo_107 : decode cX1_moveTo 107 = .ok (.i2l, 1) := by decide +kernel
theorem dX1_moveTo_108 : decode cX1_moveTo 108 = .ok (.ldiv, 1) := by decide +kernel
theorem dX1_moveTo_109 : decode cX1_moveTo 109 = .ok (.l2i, 1) := by decide +kernel
theorem dX1_moveTo_110 : decode cX1_moveTo 110 = .ok (.istore 5, 2) := by decide +kernel
theorem dX1_moveTo_112 : decode cX1_moveTo 112 = .ok (.aload_n 0, 1) := by decide +kernel
theorem dX1_moveTo_113 : decode cX1_moveTo 113 = .ok (.dup, 1) := by decide +kernel
theorem dX1_moveTo_114 : decode cX1_moveTo 114 = .ok (.getfield 38, 3) := by decide +kernel
theorem dX1_moveTo_117 : decode cX1_moveTo 117 = .ok (.iload 5, 2) := by decide +kernel
theorem dX1_moveTo_119 : decode cX1_moveTo 119 = .ok (.isub, 1) := by decide +kernel
theorem dX1_moveTo_120 : decode cX1_moveTo 120 = .ok (.putfield 38, 3) := by decide +kernel
theorem dX1_moveTo_123 : decode cX1_moveTo 123 = .ok (.aload_n 1, 1) := by decide +kernel
theorem dX1_moveTo_124 : decode cX1_moveTo 124 = .ok (.dup, 1) := by decide +kernel
theorem dX1_moveTo_125 : decode cX1_moveTo 125 = .ok (.getfield 38, 3) := by decide +kernel
theorem dX1_moveTo_128 : decode cX1_moveTo 128 = .ok (.iload 5, 2) := by decide +kernel
theorem dX1_moveTo_130 : decode cX1_moveTo 130 = .ok (.iadd, 1) := by decide +kernel
theorem dX1_moveTo_131 : decode cX1_moveTo 131 = .ok (.putfield 38, 3) := by decide +kernel
theorem dX1_moveTo_134 : decode cX1_moveTo 134 = .ok (.return_, 1) := by decide +kernel
theorem dX1_moveLiquid_0 : decode cX1_moveLiquid 0 = .ok (.aload_n 0, 1) := by decide +kernel
theorem dX1_moveLiquid_1 : decode cX1_moveLiquid 1 = .ok (.getfield 15, 3) := by decide +kernel
theorem dX1_moveLiquid_4 : decode cX1_moveLiquid 4 = .ok (.iload_n 2, 1) := by decide +kernel
theorem dX1_moveLiquid_5 : decode cX1_moveLiquid 5 = .ok (.dup2, 1) := by decide +kernel
theorem dX1_moveLiquid_6 : decode cX1_moveLiquid 6 = .ok (.iaload, 1) := by decide +kernel
theorem dX1_moveLiquid_7 : decode cX1_moveLiquid 7 = .ok (.iload_n 3, 1) := by decide +kernel
theorem dX1_moveLiquid_8 : decode cX1_moveLiquid 8 = .ok (.isub, 1) := by decide +kernel
theorem dX1_moveLiquid_9 : decode cX1_moveLiquid 9 = .ok (.iastore, 1) := by decide +kernel
theorem dX1_moveLiquid_10 : decode cX1_moveLiquid 10 = .ok (.aload_n 1, 1) := by decide +kernel
theorem dX1_moveLiquid_11 : decode cX1_moveLiquid 11 = .ok (.getfield 15, 3) := by decide +kernel
theorem dX1_moveLiquid_14 : decode cX1_moveLiquid 14 = .ok (.iload_n 2, 1) := by decide +kernel
theorem dX1_moveLiquid_15 : decode cX1_moveLiquid 15 = .ok (.dup2, 1) := by decide +kernel
theorem dX1_moveLiquid_16 : decode cX1_moveLiquid 16 = .ok (.iaload, 1) := by decide +kernel
theorem dX1_moveLiquid_17 : decode cX1_moveLiquid 17 = .ok (.iload_n 3, 1) := by decide +kernel
theorem dX1_moveLiquid_18 : decode cX1_moveLiquid 18 = .ok (.iadd, 1) := by decide +kernel
theorem dX1_moveLiquid_19 : decode cX1_moveLiquid 19 = .ok (.iastore, 1) := by decide +kernel
theorem dX1_moveLiquid_20 : decode cX1_moveLiquid 20 = .ok (.return_, 1) := by decide +kernel
set_option maxRecDepth 20000 in
theorem ggX2_init_X1_init : GoodIn wsX2_init wsX1_init := goodIn_r _ [25, 26, 2, 3, 4, 27, 28, 49, 50, 51, 52, 53, 54, 55, 56, 57, 58, 59] (by decide +kernel) (by decide +kernel)
set_option maxRecDepth 20000 in
theorem gX2_init_X1_init_n34 : GoodIn wsX2_init (wsX1_init) := ggX2_init_X1_init
set_option maxRecDepth 20000 in
theorem ggX2_init_X0_init : GoodIn wsX2_init wsX0_init := goodIn_r _ [30, 31, 2, 3] (by decide +kernel) (by decide +kernel)
set_option maxRecDepth 20000 in
theorem gX2_init_X0_init_n48 : GoodIn wsX2_init (wsX0_init) := ggX2_init_X0_init
theorem dX2_init_0 : decode cX2_init 0 = .ok (.aload_n 0, 1) := by decide +kernel
theorem dX2_init_1 : decode cX2_init 1 = .ok (.invokespecial 1, 3) := by decide +kernel
theorem dX2_init_4 : decode cX2_init 4 = .ok (.aload_n 0, 1) := by decide +kernel
theorem dX2_init_5 : decode cX2_init 5 = .ok (.bipush 60, 2) := by decide +kernel
theorem dX2_init_7 : decode cX2_init 7 = .ok (.newarray .int, 2) := by decide +kernel
theorem dX2_init_9 : decode cX2_init 9 = .ok (.putfield 9, 3) := by decide +kernel
theorem dX2_init_12 : decode cX2_init 12 = .ok (.aload_n 0, 1) := by decide +kernel
theorem dX2_init_13 : decode cX2_init 13 = .ok (.bipush 60, 2) := by decide +kernel
theorem dX2_init_15 : decode cX2_init 15 = .ok (.newarray .int, 2) := by decide +kernel
theorem dX2_init_17 : decode cX2_init 17 = .ok (.putfield 13, 3) := by decide +kernel
theorem dX2_init_20 : decode cX2_init 20 = .ok (.aload_n 0, 1) := by decide +kernel
theorem dX2_init_21 : decode cX2_init 21 = .ok (.bipush 60, 2) := by decide +kernel
theorem dX2_init_23 : decode cX2_init 23 = .ok (.newarray .int, 2) := by decide +kernel
theorem dX2_init_25 : decode cX2_init 25 = .ok (.putfield 16, 3) := by decide +kernel
theorem dX2_init_28 : decode cX2_init 28 = .ok (.aload_n 0, 1) := by decide +kernel
theorem dX2_init_29 : decode cX2_init 29 = .ok (.bipush 6, 2) := by decide +kernel
theorem dX2_init_31 : decode cX2_init 31 = .ok (.newarray .int, 2) := by decide +kernel
theorem dX2_init_33 : decode cX2_init 33 = .ok (.putfield 19, 3) := by decide +kernel
theorem dX2_init_36 : decode cX2_init 36 = .ok (.aload_n 0, 1) := by decide +kernel
theorem dX2_init_37 : decode cX2_init 37 = .ok (.bipush 6, 2) := by decide +kernel
theorem dX2_init_39 : decode cX2_init 39 = .ok (.newarray .int, 2) := by decide +kernel
theorem dX2_init_41 : decode cX2_init 41 = .ok (.putfield 22, 3) := by decide +kernel
theorem dX2_init_44 : decode cX2_init 44 = .ok (.aload_n 0, 1) := by decide +kernel
theorem dX2_init_45 : decode cX2_init 45 = .ok (.bipush 6, 2) := by decide +kernel
theorem dX2_init_47 : decode cX2_init 47 = .ok (.newarray .int, 2) := by decide +kernel
theorem dX2_init_49 : decode cX2_init 49 = .ok (.putfield 25, 3) := by decide +kernel
theorem dX2_init_52 : decode cX2_init 52 = .ok (.aload_n 0, 1) := by decide +kernel
theorem dX2_init_53 : decode cX2_init 53 = .ok (.bipush 12, 2) := by decide +kernel
theorem dX2_init_55 : decode cX2_init 55 = .ok (.anewarray 28, 3) := by decide +kernel
theorem dX2_init_58 : decode cX2_init 58 = .ok (.putfield 30, 3) := by decide +kernel
theorem dX2_init_61 : decode cX2_init 61 = .ok (.aload_n 0, 1) := by decide +kernel
theorem dX2_init_62 : decode cX2_init 62 = .ok (.new 28, 3) := by decide +kernel
theorem dX2_init_65 : decode cX2_init 65 = .ok (.dup, 1) := by decide +kernel
theorem dX2_init_66 : decode cX2_init 66 = .ok (.invokespecial 34, 3) := by decide +kernel
theorem dX2_init_69 : decode cX2_init 69 = .ok (.putfield 35, 3) := by decide +kernel
theorem dX2_init_72 : decode cX2_init 72 = .ok (.aload_n 0, 1) := by decide +kernel
theorem dX2_init_73 : decode cX2_init 73 = .ok (.sipush 1505, 3) := by decide +kernel
theorem dX2_init_76 : decode cX2_init 76 = .ok (.newarray .long, 2) := by decide +kernel
theorem dX2_init_78 : decode cX2_init 78 = .ok (.putfield 39, 3) := by decide +kernel
theorem dX2_init_81 : decode cX2_init 81 = .ok (.aload_n 0, 1) := by decide +kernel
theorem dX2_init_82 : decode cX2_init 82 = .ok (.sipush 1505, 3) := by decide +kernel
theorem dX2_init_85 : decode cX2_init 85 = .ok (.newarray .int, 2) := by decide +kernel
theorem dX2_init_87 : decode cX2_init 87 = .ok (.putfield 43, 3) := by decide +kernel
theorem dX2_init_90 : decode cX2_init 90 = .ok (.aload_n 0, 1) := by decide +kernel
theorem dX2_init_91 : decode cX2_init 91 = .ok (.new 46, 3) := by decide +kernel
theorem dX2_init_94 : decode cX2_init 94 = .ok (.dup, 1) := by decide +kernel
theorem dX2_init_95 : decode cX2_init 95 = .ok (.invokespecial 48, 3) := by decide +kernel
theorem dX2_init_98 : decode cX2_init 98 = .ok (.putfield 49, 3) := by decide +kernel
theorem dX2_init_101 : decode cX2_init 101 = .ok (.aload_n 0, 1) := by decide +kernel
theorem dX2_init_102 : decode cX2_init 102 = .ok (.iconst 2, 1) := by decide +kernel
theorem dX2_init_103 : decode cX2_init 103 = .ok (.putfield 53, 3) := by decide +kernel
theorem dX2_init_106 : decode cX2_init 106 = .ok (.iconst 0, 1) := by decide +kernel
theorem dX2_init_107 : decode cX2_init 107 = .ok (.istore_n 1, 1) := by decide +kernel
theorem dX2_init_108 : decode cX2_init 108 = .ok (.iload_n 1, 1) := by decide +kernel
theorem dX2_init_109 : decode cX2_init 109 = .ok (.bipush 12, 2) := by decide +kernel
theorem dX2_init_111 : decode cX2_init 111 = .ok (.if_icmp .ge 22, 3) := by decide +kernel
theorem dX2_init_114 : decode cX2_init 114 = .ok (.aload_n 0, 1) := by decide +kernel
theorem dX2_init_115 : decode cX2_init 115 = .ok (.getfield 30, 3) := by decide +kernel
theorem dX2_init_118 : decode cX2_init 118 = .ok (.iload_n 1, 1) := by decide +kernel
theorem dX2_init_119 : decode cX2_init 119 = .ok (.new 28, 3) := by decide +kernel
