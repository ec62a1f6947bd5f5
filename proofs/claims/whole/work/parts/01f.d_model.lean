set_option maxRecDepth 20000 in
theorem ggX4_init_X4_layUsual : GoodIn wsX4_init wsX4_layUsual := goodIn_r _ [15] (by decide +kernel) (by decide +kernel)
set_option maxRecDepth 20000 in
theorem gX4_init_X4_layUsual : GoodIn wsX4_init (va_wsS RX4 31 yX4_layUsual wsX4_layUsual) := goodIn_app (goodIn_of _ (by decide +kernel)) ggX4_init_X4_layUsual
theorem dX4_init_0 : decode cX4_init 0 = .ok (.aload_n 0, 1) := by decide +kernel
theorem dX4_init_1 : decode cX4_init 1 = .ok (.invokespecial 3, 3) := by decide +kernel
theorem dX4_init_4 : decode cX4_init 4 = .ok (.aload_n 0, 1) := by decide +kernel
theorem dX4_init_5 : decode cX4_init 5 = .ok (.sipush 700, 3) := by decide +kernel
theorem dX4_init_8 : decode cX4_init 8 = .ok (.newarray .int, 2) := by decide +kernel
theorem dX4_init_10 : decode cX4_init 10 = .ok (.putfield 9, 3) := by decide +kernel
theorem dX4_init_13 : decode cX4_init 13 = .ok (.aload_n 0, 1) := by decide +kernel
theorem dX4_init_14 : decode cX4_init 14 = .ok (.iconst (-1), 1) := by decide +kernel
theorem dX4_init_15 : decode cX4_init 15 = .ok (.putfield 13, 3) := by decide +kernel
theorem dX4_init_18 : decode cX4_init 18 = .ok (.aload_n 0, 1) := by decide +kernel
theorem dX4_init_19 : decode cX4_init 19 = .ok (.sipush 451, 3) := by decide +kernel
theorem dX4_init_22 : decode cX4_init 22 = .ok (.newarray .int, 2) := by decide +kernel
theorem dX4_init_24 : decode cX4_init 24 = .ok (.putfield 17, 3) := by decide +kernel
theorem dX4_init_27 : decode cX4_init 27 = .ok (.aload_n 0, 1) := by decide +kernel
theorem dX4_init_28 : decode cX4_init 28 = .ok (.sipush 451, 3) := by decide +kernel
theorem dX4_init_31 : decode cX4_init 31 = .ok (.newarray .int, 2) := by decide +kernel
theorem dX4_init_33 : decode cX4_init 33 = .ok (.putfield 20, 3) := by decide +kernel
theorem dX4_init_36 : decode cX4_init 36 = .ok (.aload_n 0, 1) := by decide +kernel
theorem dX4_init_37 : decode cX4_init 37 = .ok (.sipush 451, 3) := by decide +kernel
theorem dX4_init_40 : decode cX4_init 40 = .ok (.newarray .int, 2) := by decide +kernel
theorem dX4_init_42 : decode cX4_init 42 = .ok (.putfield 23, 3) := by decide +kernel
theorem dX4_init_45 : decode cX4_init 45 = .ok (.aload_n 0, 1) := by decide +kernel
theorem dX4_init_46 : decode cX4_init 46 = .ok (.bipush 8, 2) := by decide +kernel
theorem dX4_init_48 : decode cX4_init 48 = .ok (.sipush 451, 3) := by decide +kernel
theorem dX4_init_51 : decode cX4_init 51 = .ok (.multianewarray 26 2, 4) := by decide +kernel
theorem dX4_init_55 : decode cX4_init 55 = .ok (.putfield 28, 3) := by decide +kernel
theorem dX4_init_58 : decode cX4_init 58 = .ok (.aload_n 0, 1) := by decide +kernel
theorem dX4_init_59 : decode cX4_init 59 = .ok (.getfield 17, 3) := by decide +kernel
theorem dX4_init_62 : decode cX4_init 62 = .ok (.invokestatic 31, 3) := by decide +kernel
theorem dX4_init_65 : decode cX4_init 65 = .ok (.return_, 1) := by decide +kernel
theorem dX4_thrown_0 : decode cX4_thrown 0 = .ok (.aload_n 0, 1) := by decide +kernel
theorem dX4_thrown_1 : decode cX4_thrown 1 = .ok (.getfield 35, 3) := by decide +kernel
theorem dX4_thrown_4 : decode cX4_thrown 4 = .ok (.ireturn, 1) := by decide +kernel
theorem dX4_fails_0 : decode cX4_fails 0 = .ok (.iload_n 1, 1) := by decide +kernel
theorem dX4_fails_1 : decode cX4_fails 1 = .ok (.ifCond .eq 15, 3) := by decide +kernel
theorem dX4_fails_4 : decode cX4_fails 4 = .ok (.aload_n 0, 1) := by decide +kernel
theorem dX4_fails_5 : decode cX4_fails 5 = .ok (.getfield 35, 3) := by decide +kernel
theorem dX4_fails_8 : decode cX4_fails 8 = .ok (.ifCond .ne 8, 3) := by decide +kernel
theorem dX4_fails_11 : decode cX4_fails 11 = .ok (.aload_n 0, 1) := by decide +kernel
theorem dX4_fails_12 : decode cX4_fails 12 = .ok (.iload_n 2, 1) := by decide +kernel
theorem dX4_fails_13 : decode cX4_fails 13 = .ok (.putfield 35, 3) := by decide +kernel
theorem dX4_fails_16 : decode cX4_fails 16 = .ok (.aload_n 0, 1) := by decide +kernel
theorem dX4_fails_17 : decode cX4_fails 17 = .ok (.getfield 35, 3) := by decide +kernel
theorem dX4_fails_20 : decode cX4_fails 20 = .ok (.ifCond .eq 7, 3) := by decide +kernel
theorem dX4_fails_23 : decode cX4_fails 23 = .ok (.iconst 1, 1) := by decide +kernel
theorem dX4_fails_24 : decode cX4_fails 24 = .ok (.goto 4, 3) := by decide +kernel
theorem dX4_fails_27 : decode cX4_fails 27 = .ok (.iconst 0, 1) := by decide +kernel
theorem dX4_fails_28 : decode cX4_fails 28 = .ok (.ireturn, 1) := by decide +kernel
theorem dX4_in_0 : decode cX4_in 0 = .ok (.iload_n 0, 1) := by decide +kernel
theorem dX4_in_1 : decode cX4_in 1 = .ok (.iload_n 1, 1) := by decide +kernel
theorem dX4_in_2 : decode cX4_in 2 = .ok (.if_icmp .lt 12, 3) := by decide +kernel
theorem dX4_in_5 : decode cX4_in 5 = .ok (.iload_n 0, 1) := by decide +kernel
theorem dX4_in_6 : decode cX4_in 6 = .ok (.iload_n 2, 1) := by decide +kernel
theorem dX4_in_7 : decode cX4_in 7 = .ok (.if_icmp .gt 7, 3) := by decide +kernel
theorem dX4_in_10 : decode cX4_in 10 = .ok (.iconst 1, 1) := by decide +kernel
theorem dX4_in_11 : decode cX4_in 11 = .ok (.goto 4, 3) := by decide +kernel
theorem dX4_in_14 : decode cX4_in 14 = .ok (.iconst 0, 1) := by decide +kernel
theorem dX4_in_15 : decode cX4_in 15 = .ok (.ireturn, 1) := by decide +kernel
theorem dX4_min_0 : decode cX4_min 0 = .ok (.iload_n 0, 1) := by decide +kernel
theorem dX4_min_1 : decode cX4_min 1 = .ok (.iload_n 1, 1) := by decide +kernel
theorem dX4_min_2 : decode cX4_min 2 = .ok (.if_icmp .ge 7, 3) := by decide +kernel
theorem dX4_min_5 : decode cX4_min 5 = .ok (.iload_n 0, 1) := by decide +kernel
theorem dX4_min_6 : decode cX4_min 6 = .ok (.goto 4, 3) := by decide +kernel
theorem dX4_min_9 : decode cX4_min 9 = .ok (.iload_n 1, 1) := by decide +kernel
theorem dX4_min_10 : decode cX4_min 10 = .ok (.ireturn, 1) := by decide +kernel
theorem dX4_copy_0 : decode cX4_copy 0 = .ok (.iconst 0, 1) := by decide +kernel
theorem dX4_copy_1 : decode cX4_copy 1 = .ok (.istore_n 2, 1) := by decide +kernel
theorem dX4_copy_2 : decode cX4_copy 2 = .ok (.iload_n 2, 1) := by decide +kernel
theorem dX4_copy_3 : decode cX4_copy 3 = .ok (.sipush 451, 3) := by decide +kernel
theorem dX4_copy_6 : decode cX4_copy 6 = .ok (.if_icmp .ge 15, 3) := by decide +kernel
theorem dX4_copy_9 : decode cX4_copy 9 = .ok (.aload_n 1, 1) := by decide +kernel
theorem dX4_copy_10 : decode cX4_copy 10 = .ok (.iload_n 2, 1) := by decide +kernel
theorem dX4_copy_11 : decode cX4_copy 11 = .ok (.aload_n 0, 1) := by decide +kernel
theorem dX4_copy_12 : decode cX4_copy 12 = .ok (.iload_n 2, 1) := by decide +kernel
theorem dX4_copy_13 : decode cX4_copy 13 = .ok (.iaload, 1) := by decide +kernel
theorem dX4_copy_14 : decode cX4_copy 14 = .ok (.iastore, 1) := by decide +kernel
theorem dX4_copy_15 : decode cX4_copy 15 = .ok (.iinc 2 1, 3) := by decide +kernel
theorem dX4_copy_18 : decode cX4_copy 18 = .ok (.goto (-16), 3) := by decide +kernel
theorem dX4_copy_21 : decode cX4_copy 21 = .ok (.return_, 1) := by decide +kernel
theorem dX4_layUsual_0 : decode cX4_layUsual 0 = .ok (.iconst 0, 1) := by decide +kernel
theorem dX4_layUsual_1 : decode cX4_layUsual 1 = .ok (.istore_n 1, 1) := by decide +kernel
theorem dX4_layUsual_2 : decode cX4_layUsual 2 = .ok (.iload_n 1, 1) := by decide +kernel
theorem dX4_layUsual_3 : decode cX4_layUsual 3 = .ok (.sipush 451, 3) := by decide +kernel
theorem dX4_layUsual_6 : decode cX4_layUsual 6 = .ok (.if_icmp .ge 13, 3) := by decide +kernel
theorem dX4_layUsual_9 : decode cX4_layUsual 9 = .ok (.aload_n 0, 1) := by decide +kernel
theorem dX4_layUsual_10 : decode cX4_layUsual 10 = .ok (.iload_n 1, 1) := by decide +kernel
theorem dX4_layUsual_11 : decode cX4_layUsual 11 = .ok (.iconst 0, 1) := by decide +kernel
theorem dX4_layUsual_12 : decode cX4_layUsual 12 = .ok (.iastore, 1) := by decide +kernel
theorem dX4_layUsual_13 : decode cX4_layUsual 13 = .ok (.iinc 1 1, 3) := by decide +kernel
theorem dX4_layUsual_16 : decode cX4_layUsual 16 = .ok (.goto (-14), 3) := by decide +kernel
theorem dX4_layUsual_19 : decode cX4_layUsual 19 = .ok (.aload_n 0, 1) := by decide +kernel
theorem dX4_layUsual_20 : decode cX4_layUsual 20 = .ok (.iconst 4, 1) := by decide +kernel
theorem dX4_layUsual_21 : decode cX4_layUsual 21 = .ok (.iconst 5, 1) := by decide +kernel
theorem dX4_layUsual_22 : decode cX4_layUsual 22 = .ok (.iastore, 1) := by decide +kernel
theorem dX4_layUsual_23 : decode cX4_layUsual 23 = .ok (.aload_n 0, 1) := by decide +kernel
theorem dX4_layUsual_24 : decode cX4_layUsual 24 = .ok (.iconst 5, 1) := by decide +kernel
theorem dX4_layUsual_25 : decode cX4_layUsual 25 = .ok (.iconst 3, 1) := by decide +kernel
theorem dX4_layUsual_26 : decode cX4_layUsual 26 = .ok (.iastore, 1) := by decide +kernel
theorem dX4_layUsual_27 : decode cX4_layUsual 27 = .ok (.return_, 1) := by decide +kernel
theorem dX4_append_0 : decode cX4_append 0 = .ok (.aload_n 0, 1) := by decide +kernel
theorem dX4_append_1 : decode cX4_append 1 = .ok (.iconst 0, 1) := by decide +kernel
theorem dX4_append_2 : decode cX4_append 2 = .ok (.putfield 35, 3) := by decide +kernel
theorem dX4_append_5 : decode cX4_append 5 = .ok (.aload_n 0, 1) := by decide +kernel
theorem dX4_append_6 : decode cX4_append 6 = .ok (.getfield 38, 3) := by decide +kernel
theorem dX4_append_9 : decode cX4_append 9 = .ok (.bipush 20, 2) := by decide +kernel
theorem dX4_append_11 : decode cX4_append 11 = .ok (.iadd, 1) := by decide +kernel
theorem dX4_append_12 : decode cX4_append 12 = .ok (.sipush 700, 3) := by decide +kernel
theorem dX4_append_15 : decode cX4_append 15 = .ok (.if_icmp .le 5, 3) := by decide +kernel
theorem dX4_append_18 : decode cX4_append 18 = .ok (.iconst (-1), 1) := by decide +kernel
theorem dX4_append_19 : decode cX4_append 19 = .ok (.ireturn, 1) := by decide +kernel
theorem dX4_append_20 : decode cX4_append 20 = .ok (.iconst 0, 1) := by decide +kernel
theorem dX4_append_21 : decode cX4_append 21 = .ok (.istore 6, 2) := by decide +kernel
theorem dX4_append_23 : decode cX4_append 23 = .ok (.iload 6, 2) := by decide +kernel
theorem dX4_append_25 : decode cX4_append 25 = .ok (.bipush 20, 2) := by decide +kernel
theorem dX4_append_27 : decode cX4_append 27 = .ok (.if_icmp .ge 93, 3) := by decide +kernel
theorem dX4_append_30 : decode cX4_append 30 = .ok (.iload 6, 2) := by decide +kernel
theorem dX4_append_32 : decode cX4_append 32 = .ok (.iconst 4, 1) := by decide +kernel
theorem dX4_append_33 : decode cX4_append 33 = .ok (.if_icmp .ge 7, 3) := by decide +kernel
theorem dX4_append_36 : decode cX4_append 36 = .ok (.iload_n 1, 1) := by decide +kernel
theorem dX4_append_37 : decode cX4_append 37 = .ok (.goto 39, 3) := by decide +kernel
theorem dX4_append_40 : decode cX4_append 40 = .ok (.iload 6, 2) := by decide +kernel
theorem dX4_append_42 : decode cX4_append 42 = .ok (.bipush 8, 2) := by decide +kernel
theorem dX4_append_44 : decode cX4_append 44 = .ok (.if_icmp .ge 7, 3) := by decide +kernel
theorem dX4_append_47 : decode cX4_append 47 = .ok (.iload_n 2, 1) := by decide +kernel
theorem dX4_append_48 : decode cX4_append 48 = .ok (.goto 28, 3) := by decide +kernel
theorem dX4_append_51 : decode cX4_append 51 = .ok (.iload 6, 2) := by decide +kernel
theorem dX4_append_53 : decode cX4_append 53 = .ok (.bipush 12, 2) := by decide +kernel
theorem dX4_append_55 : decode cX4_append 55 = .ok (.if_icmp .ge 7, 3) := by decide +kernel
theorem dX4_append_58 : decode cX4_append 58 = .ok (.iload_n 3, 1) := by decide +kernel
theorem dX4_append_59 : decode cX4_append 59 = .ok (.goto 17, 3) := by decide +kernel
theorem dX4_append_62 : decode cX4_append 62 = .ok (.iload 6, 2) := by decide +kernel
theorem dX4_append_64 : decode cX4_append 64 = .ok (.bipush 16, 2) := by decide +kernel
theorem dX4_append_66 : decode cX4_append 66 = .ok (.if_icmp .ge 8, 3) := by decide +kernel
theorem dX4_append_69 : decode cX4_append 69 = .ok (.iload 4, 2) := by decide +kernel
theorem dX4_append_71 : decode cX4_append 71 = .ok (.goto 5, 3) := by decide +kernel
theorem dX4_append_74 : decode cX4_append 74 = .ok (.iload 5, 2) := by decide +kernel
theorem dX4_append_76 : decode cX4_append 76 = .ok (.istore 7, 2) := by decide +kernel
theorem dX4_append_78 : decode cX4_append 78 = .ok (.aload_n 0, 1) := by decide +kernel
theorem dX4_append_79 : decode cX4_append 79 = .ok (.getfield 9, 3) := by decide +kernel
theorem dX4_append_82 : decode cX4_append 82 = .ok (.aload_n 0, 1) := by decide +kernel
theorem dX4_append_83 : decode cX4_append 83 = .ok (.getfield 38, 3) := by decide +kernel
theorem dX4_append_86 : decode cX4_append 86 = .ok (.iload 7, 2) := by decide +kernel
theorem dX4_append_88 : decode cX4_append 88 = .ok (.bipush 24, 2) := by decide +kernel
theorem dX4_append_90 : decode cX4_append 90 = .ok (.bipush 8, 2) := by decide +kernel
theorem dX4_append_92 : decode cX4_append 92 = .ok (.iload 6, 2) := by decide +kernel
theorem dX4_append_94 : decode cX4_append 94 = .ok (.iconst 4, 1) := by decide +kernel
theorem dX4_append_95 : decode cX4_append 95 = .ok (.irem, 1) := by decide +kernel
theorem dX4_append_96 : decode cX4_append 96 = .ok (.imul, 1) := by decide +kernel
theorem dX4_append_97 : decode cX4_append 97 = .ok (.isub, 1) := by decide +kernel
theorem dX4_append_98 : decode cX4_append 98 = .ok (.ishr, 1) := by decide +kernel
theorem dX4_append_99 : decode cX4_append 99 = .ok (.sipush 255, 3) := by decide +kernel
theorem dX4_append_102 : decode cX4_append 102 = .ok (.iand, 1) := by decide +kernel
theorem dX4_append_103 : decode cX4_append 103 = .ok (.iastore, 1) := by decide +kernel
theorem dX4_append_104 : decode cX4_append 104 = .ok (.aload_n 0, 1) := by decide +kernel
theorem dX4_append_105 : decode cX4_append 105 = .ok (.dup, 1) := by decide +kernel
theorem dX4_append_106 : decode cX4_append 106 = .ok (.getfield 38, 3) := by decide +kernel
theorem dX4_append_109 : decode cX4_append 109 = .ok (.iconst 1, 1) := by decide +kernel
theorem dX4_append_110 : decode cX4_append 110 = .ok (.iadd, 1) := by decide +kernel
theorem dX4_append_111 : decode cX4_append 111 = .ok (.putfield 38, 3) := by decide +kernel
theorem dX4_append_114 : decode cX4_append 114 = .ok (.iinc 6 1, 3) := by decide +kernel
theorem dX4_append_117 : decode cX4_append 117 = .ok (.goto (-94), 3) := by decide +kernel
theorem dX4_append_120 : decode cX4_append 120 = .ok (.aload_n 0, 1) := by decide +kernel
theorem dX4_append_121 : decode cX4_append 121 = .ok (.getfield 38, 3) := by decide +kernel
theorem dX4_append_124 : decode cX4_append 124 = .ok (.ireturn, 1) := by decide +kernel
theorem dX4_byteAt_0 : decode cX4_byteAt 0 = .ok (.iload_n 1, 1) := by decide +kernel
theorem dX4_byteAt_1 : decode cX4_byteAt 1 = .ok (.aload_n 0, 1) := by decide +kernel
theorem dX4_byteAt_2 : decode cX4_byteAt 2 = .ok (.getfield 41, 3) := by decide +kernel
theorem dX4_byteAt_5 : decode cX4_byteAt 5 = .ok (.if_icmp .ge 12, 3) := by decide +kernel
theorem dX4_byteAt_8 : decode cX4_byteAt 8 = .ok (.aload_n 0, 1) := by decide +kernel
theorem dX4_byteAt_9 : decode cX4_byteAt 9 = .ok (.getfield 9, 3) := by decide +kernel
theorem dX4_byteAt_12 : decode cX4_byteAt 12 = .ok (.iload_n 1, 1) := by decide +kernel
theorem dX4_byteAt_13 : decode cX4_byteAt 13 = .ok (.iaload, 1) := by decide +kernel
theorem dX4_byteAt_14 : decode cX4_byteAt 14 = .ok (.goto 4, 3) := by decide +kernel
theorem dX4_byteAt_17 : decode cX4_byteAt 17 = .ok (.iconst (-1), 1) := by decide +kernel
theorem dX4_byteAt_18 : decode cX4_byteAt 18 = .ok (.ireturn, 1) := by decide +kernel
set_option maxRecDepth 20000 in
theorem ggX4_next_X4_byteAt : GoodIn wsX4_next wsX4_byteAt := goodIn_r _ [6, 7, 8, 9, 10, 11, 12, 13, 14, 15, 16, 17, 18, 19, 20, 21, 22, 23] (by decide +kernel) (by decide +kernel)
set_option maxRecDepth 20000 in
theorem gX4_next_X4_byteAt : GoodIn wsX4_next (wsV RX4 47 RX4 yX4_byteAt wsX4_byteAt) := goodIn_app (goodIn_of _ (by decide +kernel)) ggX4_next_X4_byteAt
theorem dX4_next_0 : decode cX4_next 0 = .ok (.aload_n 0, 1) := by decide +kernel
theorem dX4_next_1 : decode cX4_next 1 = .ok (.aload_n 0, 1) := by decide +kernel
theorem dX4_next_2 : decode cX4_next 2 = .ok (.getfield 44, 3) := by decide +kernel
theorem dX4_next_5 : decode cX4_next 5 = .ok (.invokevirtual 47, 3) := by decide +kernel
theorem dX4_next_8 : decode cX4_next 8 = .ok (.bipush 32, 2) := by decide +kernel
theorem dX4_next_10 : decode cX4_next 10 = .ok (.if_icmp .ne 16, 3) := by decide +kernel
theorem dX4_next_13 : decode cX4_next 13 = .ok (.aload_n 0, 1) := by decide +kernel
theorem dX4_next_14 : decode cX4_next 14 = .ok (.dup, 1) := by decide +kernel
theorem dX4_next_15 : decode cX4_next 15 = .ok (.getfield 44, 3) := by decide +kernel
theorem dX4_next_18 : decode cX4_next 18 = .ok (.iconst 1, 1) := by decide +kernel
theorem dX4_next_19 : decode cX4_next 19 = .ok (.iadd, 1) := by decide +kernel
theorem dX4_next_20 : decode cX4_next 20 = .ok (.putfield 44, 3) := by decide +kernel
theorem dX4_next_23 : decode cX4_next 23 = .ok (.goto (-23), 3) := by decide +kernel
theorem dX4_next_26 : decode cX4_next 26 = .ok (.aload_n 0, 1) := by decide +kernel
theorem dX4_next_27 : decode cX4_next 27 = .ok (.aload_n 0, 1) := by decide +kernel
theorem dX4_next_28 : decode cX4_next 28 = .ok (.getfield 44, 3) := by decide +kernel
theorem dX4_next_31 : decode cX4_next 31 = .ok (.invokevirtual 47, 3) := by decide +kernel
theorem dX4_next_34 : decode cX4_next 34 = .ok (.ireturn, 1) := by decide +kernel
theorem dX4_isGood_0 : decode cX4_isGood 0 = .ok (.aload_n 0, 1) := by decide +kernel
theorem dX4_isGood_1 : decode cX4_isGood 1 = .ok (.getfield 51, 3) := by decide +kernel
theorem dX4_isGood_4 : decode cX4_isGood 4 = .ok (.ifCond .ne 7, 3) := by decide +kernel
theorem dX4_isGood_7 : decode cX4_isGood 7 = .ok (.iconst 1, 1) := by decide +kernel
theorem dX4_isGood_8 : decode cX4_isGood 8 = .ok (.goto 4, 3) := by decide +kernel
theorem dX4_isGood_11 : decode cX4_isGood 11 = .ok (.iconst 0, 1) := by decide +kernel
theorem dX4_isGood_12 : decode cX4_isGood 12 = .ok (.ireturn, 1) := by decide +kernel
theorem dX4_report_0 : decode cX4_report 0 = .ok (.aload_n 0, 1) := by decide +kernel
theorem dX4_report_1 : decode cX4_report 1 = .ok (.getfield 51, 3) := by decide +kernel
theorem dX4_report_4 : decode cX4_report 4 = .ok (.ifCond .eq 4, 3) := by decide +kernel
theorem dX4_report_7 : decode cX4_report 7 = .ok (.return_, 1) := by decide +kernel
theorem dX4_report_8 : decode cX4_report 8 = .ok (.aload_n 0, 1) := by decide +kernel
theorem dX4_report_9 : decode cX4_report 9 = .ok (.iload_n 1, 1) := by decide +kernel
theorem dX4_report_10 : decode cX4_report 10 = .ok (.putfield 51, 3) := by decide +kernel
theorem dX4_report_13 : decode cX4_report 13 = .ok (.aload_n 0, 1) := by decide +kernel
theorem dX4_report_14 : decode cX4_report 14 = .ok (.iload_n 2, 1) := by decide +kernel
theorem dX4_report_15 : decode cX4_report 15 = .ok (.putfield 54, 3) := by decide +kernel
theorem dX4_report_18 : decode cX4_report 18 = .ok (.return_, 1) := by decide +kernel
set_option maxRecDepth 20000 in
theorem ggX4_isDigit_X4_in : GoodIn wsX4_isDigit wsX4_in := goodIn_r _ [4] (by decide +kernel) (by decide +kernel)
set_option maxRecDepth 20000 in
theorem gX4_isDigit_X4_in : GoodIn wsX4_isDigit (va_wsS RX4 57 yX4_in wsX4_in) := goodIn_app (goodIn_of _ (by decide +kernel)) ggX4_isDigit_X4_in
theorem dX4_isDigit_0 : decode cX4_isDigit 0 = .ok (.iload_n 0, 1) := by decide +kernel
theorem dX4_isDigit_1 : decode cX4_isDigit 1 = .ok (.bipush 48, 2) := by decide +kernel
theorem dX4_isDigit_3 : decode cX4_isDigit 3 = .ok (.bipush 57, 2) := by decide +kernel
theorem dX4_isDigit_5 : decode cX4_isDigit 5 = .ok (.invokestatic 57, 3) := by decide +kernel
theorem dX4_isDigit_8 : decode cX4_isDigit 8 = .ok (.ireturn, 1) := by decide +kernel
set_option maxRecDepth 20000 in
theorem ggX4_takeWord_X4_isGood : GoodIn wsX4_takeWord wsX4_isGood := goodIn_r _ [6, 7, 70, 71, 72, 73, 74, 75, 76, 77, 78, 79, 80, 81, 82, 83, 84] (by decide +kernel) (by decide +kernel)
set_option maxRecDepth 20000 in
theorem gX4_takeWord_X4_isGood : GoodIn wsX4_takeWord (wsV RX4 61 RX4 yX4_isGood wsX4_isGood) := goodIn_app (goodIn_of _ (by decide +kernel)) ggX4_takeWord_X4_isGood
set_option maxRecDepth 20000 in
theorem ggX4_takeWord_X4_next : GoodIn wsX4_takeWord wsX4_next := goodIn_r _ [11, 1, 12, 13, 14, 5, 15, 16, 17, 70, 71, 72, 73, 74, 75, 76, 77, 78, 79, 80, 81, 82, 83, 84] (by decide +kernel) (by decide +kernel)
set_option maxRecDepth 20000 in
theorem gX4_takeWord_X4_next : GoodIn wsX4_takeWord (wsV RX4 65 RX4 yX4_next wsX4_next) := goodIn_app (goodIn_of _ (by decide +kernel)) ggX4_takeWord_X4_next
set_option maxRecDepth 20000 in
theorem ggX4_takeWord_J0_length_8abf5 : GoodIn wsX4_takeWord wsJ0_length_8abf5 := goodIn_r _ [22, 23, 24, 25, 26, 21, 27, 28, 29] (by decide +kernel) (by decide +kernel)
set_option maxRecDepth 20000 in
theorem gX4_takeWord_J0_length_8abf5 : GoodIn wsX4_takeWord (wsV RX4 69 RJ0 yJ0_length_8abf5 wsJ0_length_8abf5) := goodIn_app (goodIn_of _ (by decide +kernel)) ggX4_takeWord_J0_length_8abf5
set_option maxRecDepth 20000 in
theorem ggX4_takeWord_X4_byteAt : GoodIn wsX4_takeWord wsX4_byteAt := goodIn_r _ [15, 16, 17, 70, 71, 72, 73, 74, 75, 76, 77, 78, 79, 80, 81, 82, 83, 84] (by decide +kernel) (by decide +kernel)
set_option maxRecDepth 20000 in
theorem gX4_takeWord_X4_byteAt : GoodIn wsX4_takeWord (wsV RX4 47 RX4 yX4_byteAt wsX4_byteAt) := goodIn_app (goodIn_of _ (by decide +kernel)) ggX4_takeWord_X4_byteAt
set_option maxRecDepth 20000 in
theorem ggX4_takeWord_J0_charAt_5068e : GoodIn wsX4_takeWord wsJ0_charAt_5068e := goodIn_r _ [33, 23, 34, 35, 36, 21, 37, 28, 29, 38, 39, 40, 41, 42, 43, 44, 45, 46, 47, 48, 49, 50, 51, 52, 53, 54, 55, 56, 57, 58, 59, 60, 61, 62, 63, 64, 65, 66] (by decide +kernel) (by decide +kernel)
set_option maxRecDepth 20000 in
theorem gX4_takeWord_J0_charAt_5068e : GoodIn wsX4_takeWord (wsV RX4 74 RJ0 yJ0_charAt_5068e wsJ0_charAt_5068e) := goodIn_app (goodIn_of _ (by decide +kernel)) ggX4_takeWord_J0_charAt_5068e
set_option maxRecDepth 20000 in
theorem ggX4_takeWord_X4_in : GoodIn wsX4_takeWord wsX4_in := goodIn_r _ [69] (by decide +kernel) (by decide +kernel)
set_option maxRecDepth 20000 in
theorem gX4_takeWord_X4_in : GoodIn wsX4_takeWord (va_wsS RX4 57 yX4_in wsX4_in) := goodIn_app (goodIn_of _ (by decide +kernel)) ggX4_takeWord_X4_in
theorem dX4_takeWord_0 : decode cX4_takeWord 0 = .ok (.aload_n 0, 1) := by decide +kernel
theorem dX4_takeWord_1 : decode cX4_takeWord 1 = .ok (.invokevirtual 61, 3) := by decide +kernel
theorem dX4_takeWord_4 : decode cX4_takeWord 4 = .ok (.ifCond .ne 5, 3) := by decide +kernel
theorem dX4_takeWord_7 : decode cX4_takeWord 7 = .ok (.iconst 0, 1) := by decide +kernel
theorem dX4_takeWord_8 : decode cX4_takeWord 8 = .ok (.ireturn, 1) := by decide +kernel
theorem dX4_takeWord_9 : decode cX4_takeWord 9 = .ok (.aload_n 0, 1) := by decide +kernel
theorem dX4_takeWord_10 : decode cX4_takeWord 10 = .ok (.invokevirtual 65, 3) := by decide +kernel
theorem dX4_takeWord_13 : decode cX4_takeWord 13 = .ok (.pop, 1) := by decide +kernel
theorem dX4_takeWord_14 : decode cX4_takeWord 14 = .ok (.iconst 0, 1) := by decide +kernel
theorem dX4_takeWord_15 : decode cX4_takeWord 15 = .ok (.istore_n 2, 1) := by decide +kernel
theorem dX4_takeWord_16 : decode cX4_takeWord 16 = .ok (.iload_n 2, 1) := by decide +kernel
theorem dX4_takeWord_17 : decode cX4_takeWord 17 = .ok (.aload_n 1, 1) := by decide +kernel
theorem dX4_takeWord_18 : decode cX4_takeWord 18 = .ok (.invokevirtual 69, 3) := by decide +kernel
theorem dX4_takeWord_21 : decode cX4_takeWord 21 = .ok (.if_icmp .ge 27, 3) := by decide +kernel
theorem dX4_takeWord_24 : decode cX4_takeWord 24 = .ok (.aload_n 0, 1) := by decide +kernel
theorem dX4_takeWord_25 : decode cX4_takeWord 25 = .ok (.aload_n 0, 1) := by decide +kernel
theorem dX4_takeWord_26 : decode cX4_takeWord 26 = .ok (.getfield 44, 3) := by decide +kernel
theorem dX4_takeWord_29 : decode cX4_takeWord 29 = .ok (.iload_n 2, 1) := by decide +kernel
theorem dX4_takeWord_30 : decode cX4_takeWord 30 = .ok (.iadd, 1) := by decide +kernel
theorem dX4_takeWord_31 : decode cX4_takeWord 31 = .ok (.invokevirtual 47, 3) := by decide +kernel
theorem dX4_takeWord_34 : decode cX4_takeWord 34 = .ok (.aload_n 1, 1) := by decide +kernel
theorem dX4_takeWord_35 : decode cX4_takeWord 35 = .ok (.iload_n 2, 1) := by decide +kernel
theorem dX4_takeWord_36 : decode cX4_takeWord 36 = .ok (.invokevirtual 74, 3) := by decide +kernel
theorem dX4_takeWord_39 : decode cX4_takeWord 39 = .ok (.if_icmp .ne 9, 3) := by decide +kernel
theorem dX4_takeWord_42 : decode cX4_takeWord 42 = .ok (.iinc 2 1, 3) := by decide +kernel
theorem dX4_takeWord_45 : decode cX4_takeWord 45 = .ok (.goto (-29), 3) := by decide +kernel
theorem dX4_takeWord_48 : decode cX4_takeWord 48 = .ok (.iload_n 2, 1) := by decide +kernel
theorem dX4_takeWord_49 : decode cX4_takeWord 49 = .ok (.aload_n 1, 1) := by decide +kernel
theorem dX4_takeWord_50 : decode cX4_takeWord 50 = .ok (.invokevirtual 69, 3) := by decide +kernel
theorem dX4_takeWord_53 : decode cX4_takeWord 53 = .ok (.if_icmp .lt 23, 3) := by decide +kernel
theorem dX4_takeWord_56 : decode cX4_takeWord 56 = .ok (.aload_n 0, 1) := by decide +kernel
theorem dX4_takeWord_57 : decode cX4_takeWord 57 = .ok (.aload_n 0, 1) := by decide +kernel
theorem dX4_takeWord_58 : decode cX4_takeWord 58 = .ok (.getfield 44, 3) := by decide +kernel
theorem dX4_takeWord_61 : decode cX4_takeWord 61 = .ok (.iload_n 2, 1) := by decide +kernel
theorem dX4_takeWord_62 : decode cX4_takeWord 62 = .ok (.iadd, 1) := by decide +kernel
theorem dX4_takeWord_63 : decode cX4_takeWord 63 = .ok (.invokevirtual 47, 3) := by decide +kernel
theorem dX4_takeWord_66 : decode cX4_takeWord 66 = .ok (.bipush 97, 2) := by decide +kernel
theorem dX4_takeWord_68 : decode cX4_takeWord 68 = .ok (.bipush 122, 2) := by decide +kernel
theorem dX4_takeWord_70 : decode cX4_takeWord 70 = .ok (.invokestatic 57, 3) := by decide +kernel
theorem dX4_takeWord_73 : decode cX4_takeWord 73 = .ok (.ifCond .eq 5, 3) := by decide +kernel
theorem dX4_takeWord_76 : decode cX4_takeWord 76 = .ok (.iconst 0, 1) := by decide +kernel
theorem dX4_takeWord_77 : decode cX4_takeWord 77 = .ok (.ireturn, 1) := by decide +kernel
theorem dX4_takeWord_78 : decode cX4_takeWord 78 = .ok (.aload_n 0, 1) := by decide +kernel
theorem dX4_takeWord_79 : decode cX4_takeWord 79 = .ok (.dup, 1) := by decide +kernel
theorem dX4_takeWord_80 : decode cX4_takeWord 80 = .ok (.getfield 44, 3) := by decide +kernel
theorem dX4_takeWord_83 : decode cX4_takeWord 83 = .ok (.iload_n 2, 1) := by decide +kernel
theorem dX4_takeWord_84 : decode cX4_takeWord 84 = .ok (.iadd, 1) := by decide +kernel
theorem dX4_takeWord_85 : decode cX4_takeWord 85 = .ok (.putfield 44, 3) := by decide +kernel
theorem dX4_takeWord_88 : decode cX4_takeWord 88 = .ok (.iconst 1, 1) := by decide +kernel
theorem dX4_takeWord_89 : decode cX4_takeWord 89 = .ok (.ireturn, 1) := by decide +kernel
set_option maxRecDepth 20000 in
theorem ggX4_expect_X4_isGood : GoodIn wsX4_expect wsX4_isGood := goodIn_r _ [6, 7, 23, 24, 25, 26, 27, 28, 29, 30, 31, 32, 33, 34, 35, 36, 37] (by decide +kernel) (by decide +kernel)
set_option maxRecDepth 20000 in
theorem gX4_expect_X4_isGood : GoodIn wsX4_expect (wsV RX4 61 RX4 yX4_isGood wsX4_isGood) := goodIn_app (goodIn_of _ (by decide +kernel)) ggX4_expect_X4_isGood
set_option maxRecDepth 20000 in
theorem ggX4_expect_X4_next : GoodIn wsX4_expect wsX4_next := goodIn_r _ [11, 1, 12, 13, 14, 5, 15, 16, 17, 23, 24, 25, 26, 27, 28, 29, 30, 31, 32, 33, 34, 35, 36, 37] (by decide +kernel) (by decide +kernel)
set_option maxRecDepth 20000 in
theorem gX4_expect_X4_next : GoodIn wsX4_expect (wsV RX4 65 RX4 yX4_next wsX4_next) := goodIn_app (goodIn_of _ (by decide +kernel)) ggX4_expect_X4_next
set_option maxRecDepth 20000 in
theorem ggX4_expect_X4_report : GoodIn wsX4_expect wsX4_report := goodIn_r _ [21, 7, 22, 23, 24, 25, 26, 27, 28, 29, 30, 31, 32, 33, 34, 35, 36, 37] (by decide +kernel) (by decide +kernel)
set_option maxRecDepth 20000 in
theorem gX4_expect_X4_report : GoodIn wsX4_expect (wsV RX4 78 RX4 yX4_report wsX4_report) := goodIn_app (goodIn_of _ (by decide +kernel)) ggX4_expect_X4_report
theorem dX4_expect_0 : decode cX4_expect 0 = .ok (.aload_n 0, 1) := by decide +kernel
theorem dX4_expect_1 : decode cX4_expect 1 = .ok (.invokevirtual 61, 3) := by decide +kernel
theorem dX4_expect_4 : decode cX4_expect 4 = .ok (.ifCond .ne 4, 3) := by decide +kernel
theorem dX4_expect_7 : decode cX4_expect 7 = .ok (.return_, 1) := by decide +kernel
theorem dX4_expect_8 : decode cX4_expect 8 = .ok (.aload_n 0, 1) := by decide +kernel
theorem dX4_expect_9 : decode cX4_expect 9 = .ok (.invokevirtual 65, 3) := by decide +kernel
theorem dX4_expect_12 : decode cX4_expect 12 = .ok (.iload_n 1, 1) := by decide +kernel
theorem dX4_expect_13 : decode cX4_expect 13 = .ok (.if_icmp .ne 16, 3) := by decide +kernel
theorem dX4_expect_16 : decode cX4_expect 16 = .ok (.aload_n 0, 1) := by decide +kernel
theorem dX4_expect_17 : decode cX4_expect 17 = .ok (.dup, 1) := by decide +kernel
theorem dX4_expect_18 : decode cX4_expect 18 = .ok (.getfield 44, 3) := by decide +kernel
theorem dX4_expect_21 : decode cX4_expect 21 = .ok (.iconst 1, 1) := by decide +kernel
theorem dX4_expect_22 : decode cX4_expect 22 = .ok (.iadd, 1) := by decide +kernel
theorem dX4_expect_23 : decode cX4_expect 23 = .ok (.putfield 44, 3) := by decide +kernel
theorem dX4_expect_26 : decode cX4_expect 26 = .ok (.goto 13, 3) := by decide +kernel
theorem dX4_expect_29 : decode cX4_expect 29 = .ok (.aload_n 0, 1) := by decide +kernel
theorem dX4_expect_30 : decode cX4_expect 30 = .ok (.bipush (-2), 2) := by decide +kernel
theorem dX4_expect_32 : decode cX4_expect 32 = .ok (.aload_n 0, 1) := by decide +kernel
theorem dX4_expect_33 : decode cX4_expect 33 = .ok (.getfield 44, 3) := by decide +kernel
theorem dX4_expect_36 : decode cX4_expect 36 = .ok (.invokevirtual 78, 3) := by decide +kernel
theorem dX4_expect_39 : decode cX4_expect 39 = .ok (.return_, 1) := by decide +kernel
set_option maxRecDepth 20000 in
theorem ggX4_number_X4_isGood : GoodIn wsX4_number wsX4_isGood := goodIn_r _ [8, 9, 34, 35, 36, 37, 38, 39, 40, 41, 42, 43, 44, 45, 46, 47, 48] (by decide +kernel) (by decide +kernel)
set_option maxRecDepth 20000 in
theorem gX4_number_X4_isGood : GoodIn wsX4_number (wsV RX4 61 RX4 yX4_isGood wsX4_isGood) := goodIn_app (goodIn_of _ (by decide +kernel)) ggX4_number_X4_isGood
set_option maxRecDepth 20000 in
theorem ggX4_number_X4_next : GoodIn wsX4_number wsX4_next := goodIn_r _ [13, 1, 14, 15, 16, 7, 17, 18, 19, 34, 35, 36, 37, 38, 39, 40, 41, 42, 43, 44, 45, 46, 47, 48] (by decide +kernel) (by decide +kernel)
set_option maxRecDepth 20000 in
theorem gX4_number_X4_next : GoodIn wsX4_number (wsV RX4 65 RX4 yX4_next wsX4_next) := goodIn_app (goodIn_of _ (by decide +kernel)) ggX4_number_X4_next
set_option maxRecDepth 20000 in
theorem ggX4_number_X4_isDigit : GoodIn wsX4_number wsX4_isDigit := goodIn_r _ [22, 23, 24, 7, 25] (by decide +kernel) (by decide +kernel)
set_option maxRecDepth 20000 in
theorem gX4_number_X4_isDigit : GoodIn wsX4_number (va_wsS RX4 82 yX4_isDigit wsX4_isDigit) := goodIn_app (goodIn_of _ (by decide +kernel)) ggX4_number_X4_isDigit
set_option maxRecDepth 20000 in
theorem ggX4_number_X4_report : GoodIn wsX4_number wsX4_report := goodIn_r _ [29, 9, 30, 34, 35, 36, 37, 38, 39, 40, 41, 42, 43, 44, 45, 46, 47, 48] (by decide +kernel) (by decide +kernel)
set_option maxRecDepth 20000 in
theorem gX4_number_X4_report : GoodIn wsX4_number (wsV RX4 78 RX4 yX4_report wsX4_report) := goodIn_app (goodIn_of _ (by decide +kernel)) ggX4_number_X4_report
set_option maxRecDepth 20000 in
theorem ggX4_number_X4_byteAt : GoodIn wsX4_number wsX4_byteAt := goodIn_r _ [17, 18, 19, 34, 35, 36, 37, 38, 39, 40, 41, 42, 43, 44, 45, 46, 47, 48] (by decide +kernel) (by decide +kernel)
set_option maxRecDepth 20000 in
theorem gX4_number_X4_byteAt : GoodIn wsX4_number (wsV RX4 47 RX4 yX4_byteAt wsX4_byteAt) := goodIn_app (goodIn_of _ (by decide +kernel)) ggX4_number_X4_byteAt
set_option maxRecDepth 20000 in
theorem ggX4_number_X4_min : GoodIn wsX4_number wsX4_min := goodIn_r _ [33] (by decide +kernel) (by decide +kernel)
set_option maxRecDepth 20000 in
theorem gX4_number_X4_min : GoodIn wsX4_number (va_wsS RX4 90 yX4_min wsX4_min) := goodIn_app (goodIn_of _ (by decide +kernel)) ggX4_number_X4_min
set_option maxRecDepth 20000 in
theorem ggX4_number_X4_in : GoodIn wsX4_number wsX4_in := goodIn_r _ [25] (by decide +kernel) (by decide +kernel)
set_option maxRecDepth 20000 in
theorem gX4_number_X4_in : GoodIn wsX4_number (va_wsS RX4 57 yX4_in wsX4_in) := goodIn_app (goodIn_of _ (by decide +kernel)) ggX4_number_X4_in
theorem dX4_number_0 : decode cX4_number 0 = .ok (.aload_n 0, 1) := by decide +kernel
theorem dX4_number_1 : decode cX4_number 1 = .ok (.invokevirtual 61, 3) := by decide +kernel
theorem dX4_number_4 : decode cX4_number 4 = .ok (.ifCond .ne 5, 3) := by decide +kernel
theorem dX4_number_7 : decode cX4_number 7 = .ok (.iconst 0, 1) := by decide +kernel
theorem dX4_number_8 : decode cX4_number 8 = .ok (.ireturn, 1) := by decide +kernel
theorem dX4_number_9 : decode cX4_number 9 = .ok (.aload_n 0, 1) := by decide +kernel
theorem dX4_number_10 : decode cX4_number 10 = .ok (.invokevirtual 65, 3) := by decide +kernel
theorem dX4_number_13 : decode cX4_number 13 = .ok (.invokestatic 82, 3) := by decide +kernel
theorem dX4_number_16 : decode cX4_number 16 = .ok (.ifCond .ne 15, 3) := by decide +kernel
theorem dX4_number_19 : decode cX4_number 19 = .ok (.aload_n 0, 1) := by decide +kernel
theorem dX4_number_20 : decode cX4_number 20 = .ok (.bipush (-2), 2) := by decide +kernel
theorem dX4_number_22 : decode cX4_number 22 = .ok (.aload_n 0, 1) := by decide +kernel
theorem dX4_number_23 : decode cX4_number 23 = .ok (.getfield 44, 3) := by decide +kernel
theorem dX4_number_26 : decode cX4_number 26 = .ok (.invokevirtual 78, 3) := by decide +kernel
theorem dX4_number_29 : decode cX4_number 29 = .ok (.iconst 0, 1) := by decide +kernel
theorem dX4_number_30 : decode cX4_number 30 = .ok (.ireturn, 1) := by decide +kernel
theorem dX4_number_31 : decode cX4_number 31 = .ok (.aload_n 0, 1) := by decide +kernel
theorem dX4_number_32 : decode cX4_number 32 = .ok (.aload_n 0, 1) := by decide +kernel
theorem dX4_number_33 : decode cX4_number 33 = .ok (.getfield 44, 3) := by decide +kernel
theorem dX4_number_36 : decode cX4_number 36 = .ok (.putfield 86, 3) := by decide +kernel
theorem dX4_number_39 : decode cX4_number 39 = .ok (.iconst 0, 1) := by decide +kernel
theorem dX4_number_40 : decode cX4_number 40 = .ok (.istore_n 3, 1) := by decide +kernel
theorem dX4_number_41 : decode cX4_number 41 = .ok (.aload_n 0, 1) := by decide +kernel
theorem dX4_number_42 : decode cX4_number 42 = .ok (.aload_n 0, 1) := by decide +kernel
theorem dX4_number_43 : decode cX4_number 43 = .ok (.getfield 44, 3) := by decide +kernel
theorem dX4_number_46 : decode cX4_number 46 = .ok (.invokevirtual 47, 3) := by decide +kernel
theorem dX4_number_49 : decode cX4_number 49 = .ok (.invokestatic 82, 3) := by decide +kernel
theorem dX4_number_52 : decode cX4_number 52 = .ok (.ifCond .eq 38, 3) := by decide +kernel
theorem dX4_number_55 : decode cX4_number 55 = .ok (.ldc 89, 2) := by decide +kernel
theorem dX4_number_57 : decode cX4_number 57 = .ok (.bipush 10, 2) := by decide +kernel
theorem dX4_number_59 : decode cX4_number 59 = .ok (.iload_n 3, 1) := by decide +kernel
theorem dX4_number_60 : decode cX4_number 60 = .ok (.imul, 1) := by decide +kernel
theorem dX4_number_61 : decode cX4_number 61 = .ok (.aload_n 0, 1) := by decide +kernel
theorem dX4_number_62 : decode cX4_number 62 = .ok (.aload_n 0, 1) := by decide +kernel
theorem dX4_number_63 : decode cX4_number 63 = .ok (.getfield 44, 3) := by decide +kernel
theorem dX4_number_66 : decode cX4_number 66 = .ok (.invokevirtual 47, 3) := by decide +kernel
theorem dX4_number_69 : decode cX4_number 69 = .ok (.iadd, 1) := by decide +kernel
theorem dX4_number_70 : decode cX4_number 70 = .ok (.bipush 48, 2) := by decide +kernel
theorem dX4_number_72 : decode cX4_number 72 = .ok (.isub, 1) := by decide +kernel
theorem dX4_number_73 : decode cX4_number 73 = .ok (.invokestatic 90, 3) := by decide +kernel
theorem dX4_number_76 : decode cX4_number 76 = .ok (.istore_n 3, 1) := by decide +kernel
theorem dX4_number_77 : decode cX4_number 77 = .ok (.aload_n 0, 1) := by decide +kernel
theorem dX4_number_78 : decode cX4_number 78 = .ok (.dup, 1) := by decide +kernel
theorem dX4_number_79 : decode cX4_number 79 = .ok (.getfield 44, 3) := by decide +kernel
theorem dX4_number_82 : decode cX4_number 82 = .ok (.iconst 1, 1) := by decide +kernel
theorem dX4_number_83 : decode cX4_number 83 = .ok (.iadd, 1) := by decide +kernel
theorem dX4_number_84 : decode cX4_number 84 = .ok (.putfield 44, 3) := by decide +kernel
theorem dX4_number_87 : decode cX4_number 87 = .ok (.goto (-46), 3) := by decide +kernel
theorem dX4_number_90 : decode cX4_number 90 = .ok (.iload_n 3, 1) := by decide +kernel
theorem dX4_number_91 : decode cX4_number 91 = .ok (.iload_n 1, 1) := by decide +kernel
theorem dX4_number_92 : decode cX4_number 92 = .ok (.iload_n 2, 1) := by decide +kernel
theorem dX4_number_93 : decode cX4_number 93 = .ok (.invokestatic 57, 3) := by decide +kernel
theorem dX4_number_96 : decode cX4_number 96 = .ok (.ifCond .ne 13, 3) := by decide +kernel
theorem dX4_number_99 : decode cX4_number 99 = .ok (.aload_n 0, 1) := by decide +kernel
theorem dX4_number_100 : decode cX4_number 100 = .ok (.bipush (-3), 2) := by decide +kernel
theorem dX4_number_102 : decode cX4_number 102 = .ok (.aload_n 0, 1) := by decide +kernel
theorem dX4_number_103 : decode cX4_number 103 = .ok (.getfield 86, 3) := by decide +kernel
theorem dX4_number_106 : decode cX4_number 106 = .ok (.invokevirtual 78, 3) := by decide +kernel
theorem dX4_number_109 : decode cX4_number 109 = .ok (.iload_n 3, 1) := by decide +kernel
theorem dX4_number_110 : decode cX4_number 110 = .ok (.ireturn, 1) := by decide +kernel
set_option maxRecDepth 20000 in
theorem ggX4_once_X4_report : GoodIn wsX4_once wsX4_report := goodIn_r _ [6, 7, 8, 9, 10, 11, 12, 13, 14, 15, 16, 17, 18, 19, 20, 21, 22, 23] (by decide +kernel) (by decide +kernel)
set_option maxRecDepth 20000 in
theorem gX4_once_X4_report : GoodIn wsX4_once (wsV RX4 78 RX4 yX4_report wsX4_report) := goodIn_app (goodIn_of _ (by decide +kernel)) ggX4_once_X4_report
theorem dX4_once_0 : decode cX4_once 0 = .ok (.aload_n 0, 1) := by decide +kernel
theorem dX4_once_1 : decode cX4_once 1 = .ok (.getfield 94, 3) := by decide +kernel
theorem dX4_once_4 : decode cX4_once 4 = .ok (.iload_n 1, 1) := by decide +kernel
theorem dX4_once_5 : decode cX4_once 5 = .ok (.ishr, 1) := by decide +kernel
theorem dX4_once_6 : decode cX4_once 6 = .ok (.iconst 1, 1) := by decide +kernel
theorem dX4_once_7 : decode cX4_once 7 = .ok (.iand, 1) := by decide +kernel
theorem dX4_once_8 : decode cX4_once 8 = .ok (.iconst 1, 1) := by decide +kernel
theorem dX4_once_9 : decode cX4_once 9 = .ok (.if_icmp .ne 10, 3) := by decide +kernel
theorem dX4_once_12 : decode cX4_once 12 = .ok (.aload_n 0, 1) := by decide +kernel
theorem dX4_once_13 : decode cX4_once 13 = .ok (.bipush (-2), 2) := by decide +kernel
theorem dX4_once_15 : decode cX4_once 15 = .ok (.iload_n 2, 1) := by decide +kernel
theorem dX4_once_16 : decode cX4_once 16 = .ok (.invokevirtual 78, 3) := by decide +kernel
theorem dX4_once_19 : decode cX4_once 19 = .ok (.aload_n 0, 1) := by decide +kernel
theorem dX4_once_20 : decode cX4_once 20 = .ok (.dup, 1) := by decide +kernel
theorem dX4_once_21 : decode cX4_once 21 = .ok (.getfield 94, 3) := by decide +kernel
theorem dX4_once_24 : decode cX4_once 24 = .ok (.iconst 1, 1) := by decide +kernel
theorem dX4_once_25 : decode cX4_once 25 = .ok (.iload_n 1, 1) := by decide +kernel
theorem dX4_once_26 : decode cX4_once 26 = .ok (.ishl, 1) := by decide +kernel
theorem dX4_once_27 : decode cX4_once 27 = .ok (.ior, 1) := by decide +kernel
theorem dX4_once_28 : decode cX4_once 28 = .ok (.putfield 94, 3) := by decide +kernel
theorem dX4_once_31 : decode cX4_once 31 = .ok (.return_, 1) := by decide +kernel
set_option maxRecDepth 20000 in
theorem ggX4_readStock_X4_report : GoodIn wsX4_readStock wsX4_report := goodIn_r _ [6, 7, 8, 39, 40, 41, 42, 43, 44, 45, 46, 47, 48, 49, 50, 51, 52, 53] (by decide +kernel) (by decide +kernel)
set_option maxRecDepth 20000 in
theorem gX4_readStock_X4_report : GoodIn wsX4_readStock (wsV RX4 78 RX4 yX4_report wsX4_report) := goodIn_app (goodIn_of _ (by decide +kernel)) ggX4_readStock_X4_report
set_option maxRecDepth 20000 in
theorem ggX4_readStock_X4_number : GoodIn wsX4_readStock wsX4_number := goodIn_r _ [12, 13, 14, 15, 16, 17, 18, 5, 19, 7, 20, 21, 22, 23, 24, 25, 26, 27, 28, 29, 30, 31, 32, 33, 34, 35, 2, 3, 4, 6, 8, 36, 37, 38, 39, 40, 41, 42, 43, 44, 45, 46, 47, 48, 49, 50, 51, 52, 53] (by decide +kernel) (by decide +kernel)
set_option maxRecDepth 20000 in
theorem gX4_readStock_X4_number : GoodIn wsX4_readStock (wsV RX4 97 RX4 yX4_number wsX4_number) := goodIn_app (goodIn_of _ (by decide +kernel)) ggX4_readStock_X4_number
set_option maxRecDepth 20000 in
theorem ggX4_readStock_X4_isGood : GoodIn wsX4_readStock wsX4_isGood := goodIn_r _ [19, 7, 39, 40, 41, 42, 43, 44, 45, 46, 47, 48, 49, 50, 51, 52, 53] (by decide +kernel) (by decide +kernel)
set_option maxRecDepth 20000 in
theorem gX4_readStock_X4_isGood : GoodIn wsX4_readStock (wsV RX4 61 RX4 yX4_isGood wsX4_isGood) := goodIn_app (goodIn_of _ (by decide +kernel)) ggX4_readStock_X4_isGood
theorem dX4_readStock_0 : decode cX4_readStock 0 = .ok (.aload_n 0, 1) := by decide +kernel
theorem dX4_readStock_1 : decode cX4_readStock 1 = .ok (.getfield 20, 3) := by decide +kernel
theorem dX4_readStock_4 : decode cX4_readStock 4 = .ok (.iconst 1, 1) := by decide +kernel
theorem dX4_readStock_5 : decode cX4_readStock 5 = .ok (.iaload, 1) := by decide +kernel
theorem dX4_readStock_6 : decode cX4_readStock 6 = .ok (.bipush 6, 2) := by decide +kernel
theorem dX4_readStock_8 : decode cX4_readStock 8 = .ok (.if_icmp .ne 10, 3) := by decide +kernel
theorem dX4_readStock_11 : decode cX4_readStock 11 = .ok (.aload_n 0, 1) := by decide +kernel
theorem dX4_readStock_12 : decode cX4_readStock 12 = .ok (.bipush (-4), 2) := by decide +kernel
theorem dX4_readStock_14 : decode cX4_readStock 14 = .ok (.iload_n 1, 1) := by decide +kernel
theorem dX4_readStock_15 : decode cX4_readStock 15 = .ok (.invokevirtual 78, 3) := by decide +kernel
theorem dX4_readStock_18 : decode cX4_readStock 18 = .ok (.aload_n 0, 1) := by decide +kernel
theorem dX4_readStock_19 : decode cX4_readStock 19 = .ok (.iconst 0, 1) := by decide +kernel
theorem dX4_readStock_20 : decode cX4_readStock 20 = .ok (.sipush 9999, 3) := by decide +kernel
theorem dX4_readStock_23 : decode cX4_readStock 23 = .ok (.invokevirtual 97, 3) := by decide +kernel
theorem dX4_readStock_26 : decode cX4_readStock 26 = .ok (.istore_n 2, 1) := by decide +kernel
theorem dX4_readStock_27 : decode cX4_readStock 27 = .ok (.aload_n 0, 1) := by decide +kernel
theorem dX4_readStock_28 : decode cX4_readStock 28 = .ok (.iconst 1, 1) := by decide +kernel
theorem dX4_readStock_29 : decode cX4_readStock 29 = .ok (.bipush 9, 2) := by decide +kernel
theorem dX4_readStock_31 : decode cX4_readStock 31 = .ok (.invokevirtual 97, 3) := by decide +kernel
theorem dX4_readStock_34 : decode cX4_readStock 34 = .ok (.istore_n 3, 1) := by decide +kernel
theorem dX4_readStock_35 : decode cX4_readStock 35 = .ok (.aload_n 0, 1) := by decide +kernel
theorem dX4_readStock_36 : decode cX4_readStock 36 = .ok (.invokevirtual 61, 3) := by decide +kernel
theorem dX4_readStock_39 : decode cX4_readStock 39 = .ok (.ifCond .ne 4, 3) := by decide +kernel
theorem dX4_readStock_42 : decode cX4_readStock 42 = .ok (.return_, 1) := by decide +kernel
theorem dX4_readStock_43 : decode cX4_readStock 43 = .ok (.aload_n 0, 1) := by decide +kernel
theorem dX4_readStock_44 : decode cX4_readStock 44 = .ok (.getfield 20, 3) := by decide +kernel
theorem dX4_readStock_47 : decode cX4_readStock 47 = .ok (.bipush 7, 2) := by decide +kernel
theorem dX4_readStock_49 : decode cX4_readStock 49 = .ok (.iconst 2, 1) := by decide +kernel
theorem dX4_readStock_50 : decode cX4_readStock 50 = .ok (.aload_n 0, 1) := by decide +kernel
theorem dX4_readStock_51 : decode cX4_readStock 51 = .ok (.getfield 20, 3) := by decide +kernel
theorem dX4_readStock_54 : decode cX4_readStock 54 = .ok (.iconst 1, 1) := by decide +kernel
theorem dX4_readStock_55 : decode cX4_readStock 55 = .ok (.iaload, 1) := by decide +kernel
theorem dX4_readStock_56 : decode cX4_readStock 56 = .ok (.imul, 1) := by decide +kernel
theorem dX4_readStock_57 : decode cX4_readStock 57 = .ok (.iadd, 1) := by decide +kernel
theorem dX4_readStock_58 : decode cX4_readStock 58 = .ok (.iconst 0, 1) := by decide +kernel
theorem dX4_readStock_59 : decode cX4_readStock 59 = .ok (.iadd, 1) := by decide +kernel
theorem dX4_readStock_60 : decode cX4_readStock 60 = .ok (.iload_n 2, 1) := by decide +kernel
theorem dX4_readStock_61 : decode cX4_readStock 61 = .ok (.iastore, 1) := by decide +kernel
theorem dX4_readStock_62 : decode cX4_readStock 62 = .ok (.aload_n 0, 1) := by decide +kernel
theorem dX4_readStock_63 : decode cX4_readStock 63 = .ok (.getfield 20, 3) := by decide +kernel
theorem dX4_readStock_66 : decode cX4_readStock 66 = .ok (.bipush 7, 2) := by decide +kernel
theorem dX4_readStock_68 : decode cX4_readStock 68 = .ok (.iconst 2, 1) := by decide +kernel
theorem dX4_readStock_69 : decode cX4_readStock 69 = .ok (.aload_n 0, 1) := by decide +kernel
theorem dX4_readStock_70 : decode cX4_readStock 70 = .ok (.getfield 20, 3) := by decide +kernel
theorem dX4_readStock_73 : decode cX4_readStock 73 = .ok (.iconst 1, 1) := by decide +kernel
theorem dX4_readStock_74 : decode cX4_readStock 74 = .ok (.iaload, 1) := by decide +kernel
theorem dX4_readStock_75 : decode cX4_readStock 75 = .ok (.imul, 1) := by decide +kernel
theorem dX4_readStock_76 : decode cX4_readStock 76 = .ok (.iadd, 1) := by decide +kernel
theorem dX4_readStock_77 : decode cX4_readStock 77 = .ok (.iconst 1, 1) := by decide +kernel
theorem dX4_readStock_78 : decode cX4_readStock 78 = .ok (.iadd, 1) := by decide +kernel
theorem dX4_readStock_79 : decode cX4_readStock 79 = .ok (.iload_n 3, 1) := by decide +kernel
theorem dX4_readStock_80 : decode cX4_readStock 80 = .ok (.iastore, 1) := by decide +kernel
theorem dX4_readStock_81 : decode cX4_readStock 81 = .ok (.aload_n 0, 1) := by decide +kernel
theorem dX4_readStock_82 : decode cX4_readStock 82 = .ok (.getfield 20, 3) := by decide +kernel
theorem dX4_readStock_85 : decode cX4_readStock 85 = .ok (.iconst 1, 1) := by decide +kernel
theorem dX4_readStock_86 : decode cX4_readStock 86 = .ok (.dup2, 1) := by decide +kernel
theorem dX4_readStock_87 : decode cX4_readStock 87 = .ok (.iaload, 1) := by decide +kernel
theorem dX4_readStock_88 : decode cX4_readStock 88 = .ok (.iconst 1, 1) := by decide +kernel
theorem dX4_readStock_89 : decode cX4_readStock 89 = .ok (.iadd, 1) := by decide +kernel
theorem dX4_readStock_90 : decode cX4_readStock 90 = .ok (.iastore, 1) := by decide +kernel
theorem dX4_readStock_91 : decode cX4_readStock 91 = .ok (.return_, 1) := by decide +kernel
set_option maxRecDepth 20000 in
theorem ggX4_readStep_X4_number : GoodIn wsX4_readStep wsX4_number := goodIn_r _ [7, 8, 2, 9, 10, 11, 12, 6, 13, 14, 15, 16, 17, 18, 19, 20, 21, 22, 23, 24, 25, 26, 27, 28, 29, 30, 31, 32, 33, 34, 35, 36, 37, 38, 96, 97, 98, 99, 100, 101, 102, 103, 104, 105, 106, 107, 108, 109, 110] (by decide +kernel) (by decide +kernel)
set_option maxRecDepth 20000 in
theorem gX4_readStep_X4_number : GoodIn wsX4_readStep (wsV RX4 97 RX4 yX4_number wsX4_number) := goodIn_app (goodIn_of _ (by decide +kernel)) ggX4_readStep_X4_number
set_option maxRecDepth 20000 in
theorem ggX4_readStep_X4_isGood : GoodIn wsX4_readStep wsX4_isGood := goodIn_r _ [13, 14, 96, 97, 98, 99, 100, 101, 102, 103, 104, 105, 106, 107, 108, 109, 110] (by decide +kernel) (by decide +kernel)
set_option maxRecDepth 20000 in
theorem gX4_readStep_X4_isGood : GoodIn wsX4_readStep (wsV RX4 61 RX4 yX4_isGood wsX4_isGood) := goodIn_app (goodIn_of _ (by decide +kernel)) ggX4_readStep_X4_isGood
set_option maxRecDepth 20000 in
theorem ggX4_readStep_X4_report : GoodIn wsX4_readStep wsX4_report := goodIn_r _ [34, 14, 35, 96, 97, 98, 99, 100, 101, 102, 103, 104, 105, 106, 107, 108, 109, 110] (by decide +kernel) (by decide +kernel)
set_option maxRecDepth 20000 in
theorem gX4_readStep_X4_report : GoodIn wsX4_readStep (wsV RX4 78 RX4 yX4_report wsX4_report) := goodIn_app (goodIn_of _ (by decide +kernel)) ggX4_readStep_X4_report
set_option maxRecDepth 20000 in
theorem ggX4_readStep_X4_expect : GoodIn wsX4_readStep wsX4_expect := goodIn_r _ [42, 8, 10, 11, 12, 6, 13, 14, 15, 16, 17, 18, 19, 20, 21, 22, 23, 24, 31, 32, 33, 34, 35, 96, 97, 98, 99, 100, 101, 102, 103, 104, 105, 106, 107, 108, 109, 110] (by decide +kernel) (by decide +kernel)
set_option maxRecDepth 20000 in
theorem gX4_readStep_X4_expect : GoodIn wsX4_readStep (wsV RX4 100 RX4 yX4_expect wsX4_expect) := goodIn_app (goodIn_of _ (by decide +kernel)) ggX4_readStep_X4_expect
set_option maxRecDepth 20000 in
theorem ggX4_readStep_X4_takeWord : GoodIn wsX4_readStep wsX4_takeWord := goodIn_r _ [46, 8, 10, 11, 12, 6, 13, 14, 15, 16, 17, 18, 19, 20, 21, 22, 23, 24, 47, 48, 49, 50, 51, 52, 53, 54, 55, 56, 57, 58, 59, 60, 61, 62, 63, 64, 65, 66, 67, 68, 69, 70, 71, 72, 73, 74, 75, 76, 77, 78, 79, 80, 81, 82, 83, 84, 85, 86, 87, 88, 89, 90, 91, 92, 93, 94, 95, 28, 29, 30, 96, 97, 98, 99, 100, 101, 102, 103, 104, 105, 106, 107, 108, 109, 110] (by decide +kernel) (by decide +kernel)
set_option maxRecDepth 20000 in
theorem gX4_readStep_X4_takeWord : GoodIn wsX4_readStep (wsV RX4 106 RX4 yX4_takeWord wsX4_takeWord) := goodIn_app (goodIn_of _ (by decide +kernel)) ggX4_readStep_X4_takeWord
theorem dX4_readStep_0 : decode cX4_readStep 0 = .ok (.aload_n 0, 1) := by decide +kernel
theorem dX4_readStep_1 : decode cX4_readStep 1 = .ok (.iconst 0, 1) := by decide +kernel
theorem dX4_readStep_2 : decode cX4_readStep 2 = .ok (.aload_n 0, 1) := by decide +kernel
theorem dX4_readStep_3 : decode cX4_readStep 3 = .ok (.getfield 20, 3) := by decide +kernel
theorem dX4_readStep_6 : decode cX4_readStep 6 = .ok (.iconst 1, 1) := by decide +kernel
theorem dX4_readStep_7 : decode cX4_readStep 7 = .ok (.iaload, 1) := by decide +kernel
theorem dX4_readStep_8 : decode cX4_readStep 8 = .ok (.iconst 1, 1) := by decide +kernel
theorem dX4_readStep_9 : decode cX4_readStep 9 = .ok (.isub, 1) := by decide +kernel
theorem dX4_readStep_10 : decode cX4_readStep 10 = .ok (.invokevirtual 97, 3) := by decide +kernel
theorem dX4_readStep_13 : decode cX4_readStep 13 = .ok (.istore_n 3, 1) := by decide +kernel
theorem dX4_readStep_14 : decode cX4_readStep 14 = .ok (.aload_n 0, 1) := by decide +kernel
theorem dX4_readStep_15 : decode cX4_readStep 15 = .ok (.invokevirtual 61, 3) := by decide +kernel
theorem dX4_readStep_18 : decode cX4_readStep 18 = .ok (.ifCond .eq 24, 3) := by decide +kernel
theorem dX4_readStep_21 : decode cX4_readStep 21 = .ok (.aload_n 0, 1) := by decide +kernel
theorem dX4_readStep_22 : decode cX4_readStep 22 = .ok (.getfield 20, 3) := by decide +kernel
theorem dX4_readStep_25 : decode cX4_readStep 25 = .ok (.iconst 3, 1) := by decide +kernel
theorem dX4_readStep_26 : decode cX4_readStep 26 = .ok (.iaload, 1) := by decide +kernel
theorem dX4_readStep_27 : decode cX4_readStep 27 = .ok (.bipush 40, 2) := by decide +kernel
theorem dX4_readStep_29 : decode cX4_readStep 29 = .ok (.if_icmp .ne 13, 3) := by decide +kernel
theorem dX4_readStep_32 : decode cX4_readStep 32 = .ok (.aload_n 0, 1) := by decide +kernel
theorem dX4_readStep_33 : decode cX4_readStep 33 = .ok (.bipush (-4), 2) := by decide +kernel
theorem dX4_readStep_35 : decode cX4_readStep 35 = .ok (.aload_n 0, 1) := by decide +kernel
theorem dX4_readStep_36 : decode cX4_readStep 36 = .ok (.getfield 86, 3) := by decide +kernel
theorem dX4_readStep_39 : decode cX4_readStep 39 = .ok (.invokevirtual 78, 3) := by decide +kernel
theorem dX4_readStep_42 : decode cX4_readStep 42 = .ok (.aload_n 0, 1) := by decide +kernel
theorem dX4_readStep_43 : decode cX4_readStep 43 = .ok (.bipush 42, 2) := by decide +kernel
theorem dX4_readStep_45 : decode cX4_readStep 45 = .ok (.invokevirtual 100, 3) := by decide +kernel
theorem dX4_readStep_48 : decode cX4_readStep 48 = .ok (.aload_n 0, 1) := by decide +kernel
theorem dX4_readStep_49 : decode cX4_readStep 49 = .ok (.iconst 1, 1) := by decide +kernel
theorem dX4_readStep_50 : decode cX4_readStep 50 = .ok (.sipush 999, 3) := by decide +kernel
theorem dX4_readStep_53 : decode cX4_readStep 53 = .ok (.invokevirtual 97, 3) := by decide +kernel
theorem dX4_readStep_56 : decode cX4_readStep 56 = .ok (.istore 4, 2) := by decide +kernel
theorem dX4_readStep_58 : decode cX4_readStep 58 = .ok (.aload_n 0, 1) := by decide +kernel
theorem dX4_readStep_59 : decode cX4_readStep 59 = .ok (.bipush 58, 2) := by decide +kernel
theorem dX4_readStep_61 : decode cX4_readStep 61 = .ok (.invokevirtual 100, 3) := by decide +kernel
theorem dX4_readStep_64 : decode cX4_readStep 64 = .ok (.aload_n 0, 1) := by decide +kernel
theorem dX4_readStep_65 : decode cX4_readStep 65 = .ok (.iconst 1, 1) := by decide +kernel
theorem dX4_readStep_66 : decode cX4_readStep 66 = .ok (.bipush 99, 2) := by decide +kernel
theorem dX4_readStep_68 : decode cX4_readStep 68 = .ok (.invokevirtual 97, 3) := by decide +kernel
theorem dX4_readStep_71 : decode cX4_readStep 71 = .ok (.istore 5, 2) := by decide +kernel
theorem dX4_readStep_73 : decode cX4_readStep 73 = .ok (.aload_n 0, 1) := by decide +kernel
theorem dX4_readStep_74 : decode cX4_readStep 74 = .ok (.ldc 104, 2) := by decide +kernel
theorem dX4_readStep_76 : decode cX4_readStep 76 = .ok (.invokevirtual 106, 3) := by decide +kernel
theorem dX4_readStep_79 : decode cX4_readStep 79 = .ok (.ifCond .eq 13, 3) := by decide +kernel
theorem dX4_readStep_82 : decode cX4_readStep 82 = .ok (.aload_n 0, 1) := by decide +kernel
theorem dX4_readStep_83 : decode cX4_readStep 83 = .ok (.iconst 0, 1) := by decide +kernel
theorem dX4_readStep_84 : decode cX4_readStep 84 = .ok (.bipush 9, 2) := by decide +kernel
theorem dX4_readStep_86 : decode cX4_readStep 86 = .ok (.invokevirtual 97, 3) := by decide +kernel
theorem dX4_readStep_89 : decode cX4_readStep 89 = .ok (.goto 4, 3) := by decide +kernel
theorem dX4_readStep_92 : decode cX4_readStep 92 = .ok (.iconst 0, 1) := by decide +kernel
theorem dX4_readStep_93 : decode cX4_readStep 93 = .ok (.istore 6, 2) := by decide +kernel
theorem dX4_readStep_95 : decode cX4_readStep 95 = .ok (.aload_n 0, 1) := by decide +kernel
theorem dX4_readStep_96 : decode cX4_readStep 96 = .ok (.ldc 110, 2) := by decide +kernel
theorem dX4_readStep_98 : decode cX4_readStep 98 = .ok (.invokevirtual 106, 3) := by decide +kernel
theorem dX4_readStep_101 : decode cX4_readStep 101 = .ok (.ifCond .eq 13, 3) := by decide +kernel
theorem dX4_readStep_104 : decode cX4_readStep 104 = .ok (.aload_n 0, 1) := by decide +kernel
theorem dX4_readStep_105 : decode cX4_readStep 105 = .ok (.iconst 0, 1) := by decide +kernel
theorem dX4_readStep_106 : decode cX4_readStep 106 = .ok (.bipush 9, 2) := by decide +kernel
theorem dX4_readStep_108 : decode cX4_readStep 108 = .ok (.invokevirtual 97, 3) := by decide +kernel
theorem dX4_readStep_111 : decode cX4_readStep 111 = .ok (.goto 4, 3) := by decide +kernel
theorem dX4_readStep_114 : decode cX4_readStep 114 = .ok (.iconst 0, 1) := by decide +kernel
theorem dX4_readStep_115 : decode cX4_readStep 115 = .ok (.istore 7, 2) := by decide +kernel
theorem dX4_readStep_117 : decode cX4_readStep 117 = .ok (.aload_n 0, 1) := by decide +kernel
theorem dX4_readStep_118 : decode cX4_readStep 118 = .ok (.invokevirtual 61, 3) := by decide +kernel
theorem dX4_readStep_121 : decode cX4_readStep 121 = .ok (.ifCond .ne 4, 3) := by decide +kernel
theorem dX4_readStep_124 : decode cX4_readStep 124 = .ok (.return_, 1) := by decide +kernel
theorem dX4_readStep_125 : decode cX4_readStep 125 = .ok (.bipush 91, 2) := by decide +kernel
theorem dX4_readStep_127 : decode cX4_readStep 127 = .ok (.bipush 9, 2) := by decide +kernel
theorem dX4_readStep_129 : decode cX4_readStep 129 = .ok (.aload_n 0, 1) := by decide +kernel
theorem dX4_readStep_130 : decode cX4_readStep 130 = .ok (.getfield 20, 3) := by decide +kernel
theorem dX4_readStep_133 : decode cX4_readStep 133 = .ok (.iconst 3, 1) := by decide +kernel
theorem dX4_readStep_134 : decode cX4_readStep 134 = .ok (.iaload, 1) := by decide +kernel
theorem dX4_readStep_135 : decode cX4_readStep 135 = .ok (.imul, 1) := by decide +kernel
theorem dX4_readStep_136 : decode cX4_readStep 136 = .ok (.iadd, 1) := by decide +kernel
theorem dX4_readStep_137 : decode cX4_readStep 137 = .ok (.istore 8, 2) := by decide +kernel
theorem dX4_readStep_139 : decode cX4_readStep 139 = .ok (.aload_n 0, 1) := by decide +kernel
theorem dX4_readStep_140 : decode cX4_readStep 140 = .ok (.getfield 20, 3) := by decide +kernel
theorem dX4_readStep_143 : decode cX4_readStep 143 = .ok (.iload 8, 2) := by decide +kernel
theorem dX4_readStep_145 : decode cX4_readStep 145 = .ok (.iconst 0, 1) := by decide +kernel
theorem dX4_readStep_146 : decode cX4_readStep 146 = .ok (.iadd, 1) := by decide +kernel
theorem dX4_readStep_147 : decode cX4_readStep 147 = .ok (.iload_n 2, 1) := by decide +kernel
theorem dX4_readStep_148 : decode cX4_readStep 148 = .ok (.iastore, 1) := by decide +kernel
theorem dX4_readStep_149 : decode cX4_readStep 149 = .ok (.aload_n 0, 1) := by decide +kernel
theorem dX4_readStep_150 : decode cX4_readStep 150 = .ok (.getfield 20, 3) := by decide +kernel
theorem dX4_readStep_153 : decode cX4_readStep 153 = .ok (.iload 8, 2) := by decide +kernel
theorem dX4_readStep_155 : decode cX4_readStep 155 = .ok (.iconst 1, 1) := by decide +kernel
theorem dX4_readStep_156 : decode cX4_readStep 156 = .ok (.iadd, 1) := by decide +kernel
theorem dX4_readStep_157 : decode cX4_readStep 157 = .ok (.iload_n 3, 1) := by decide +kernel
theorem dX4_readStep_158 : decode cX4_readStep 158 = .ok (.iastore, 1) := by decide +kernel
theorem dX4_readStep_159 : decode cX4_readStep 159 = .ok (.aload_n 0, 1) := by decide +kernel
theorem dX4_readStep_160 : decode cX4_readStep 160 = .ok (.getfield 20, 3) := by decide +kernel
theorem dX4_readStep_163 : decode cX4_readStep 163 = .ok (.iload 8, 2) := by decide +kernel
theorem dX4_readStep_165 : decode cX4_readStep 165 = .ok (.iconst 2, 1) := by decide +kernel
theorem dX4_readStep_166 : decode cX4_readStep 166 = .ok (.iadd, 1) := by decide +kernel
theorem dX4_readStep_167 : decode cX4_readStep 167 = .ok (.iload 4, 2) := by decide +kernel
theorem dX4_readStep_169 : decode cX4_readStep 169 = .ok (.iastore, 1) := by decide +kernel
theorem dX4_readStep_170 : decode cX4_readStep 170 = .ok (.aload_n 0, 1) := by decide +kernel
theorem dX4_readStep_171 : decode cX4_readStep 171 = .ok (.getfield 20, 3) := by decide +kernel
theorem dX4_readStep_174 : decode cX4_readStep 174 = .ok (.iload 8, 2) := by decide +kernel
theorem dX4_readStep_176 : decode cX4_readStep 176 = .ok (.iconst 3, 1) := by decide +kernel
theorem dX4_readStep_177 : decode cX4_readStep 177 = .ok (.iadd, 1) := by decide +kernel
theorem dX4_readStep_178 : decode cX4_readStep 178 = .ok (.iload 5, 2) := by decide +kernel
theorem dX4_readStep_180 : decode cX4_readStep 180 = .ok (.iastore, 1) := by decide +kernel
theorem dX4_readStep_181 : decode cX4_readStep 181 = .ok (.aload_n 0, 1) := by decide +kernel
theorem dX4_readStep_182 : decode cX4_readStep 182 = .ok (.getfield 20, 3) := by decide +kernel
theorem dX4_readStep_185 : decode cX4_readStep 185 = .ok (.iload 8, 2) := by decide +kernel
theorem dX4_readStep_187 : decode cX4_readStep 187 = .ok (.iconst 4, 1) := by decide +kernel
theorem dX4_readStep_188 : decode cX4_readStep 188 = .ok (.iadd, 1) := by decide +kernel
theorem dX4_readStep_189 : decode cX4_readStep 189 = .ok (.iconst 0, 1) := by decide +kernel
theorem dX4_readStep_190 : decode cX4_readStep 190 = .ok (.iastore, 1) := by decide +kernel
theorem dX4_readStep_191 : decode cX4_readStep 191 = .ok (.aload_n 0, 1) := by decide +kernel
theorem dX4_readStep_192 : decode cX4_readStep 192 = .ok (.getfield 20, 3) := by decide +kernel
theorem dX4_readStep_195 : decode cX4_readStep 195 = .ok (.iload 8, 2) := by decide +kernel
theorem dX4_readStep_197 : decode cX4_readStep 197 = .ok (.iconst 5, 1) := by decide +kernel
theorem dX4_readStep_198 : decode cX4_readStep 198 = .ok (.iadd, 1) := by decide +kernel
theorem dX4_readStep_199 : decode cX4_readStep 199 = .ok (.iload 6, 2) := by decide +kernel
theorem dX4_readStep_201 : decode cX4_readStep 201 = .ok (.iastore, 1) := by decide +kernel
theorem dX4_readStep_202 : decode cX4_readStep 202 = .ok (.aload_n 0, 1) := by decide +kernel
theorem dX4_readStep_203 : decode cX4_readStep 203 = .ok (.getfield 20, 3) := by decide +kernel
theorem dX4_readStep_206 : decode cX4_readStep 206 = .ok (.iload 8, 2) := by decide +kernel
theorem dX4_readStep_208 : decode cX4_readStep 208 = .ok (.bipush 6, 2) := by decide +kernel
theorem dX4_readStep_210 : decode cX4_readStep 210 = .ok (.iadd, 1) := by decide +kernel
theorem dX4_readStep_211 : decode cX4_readStep 211 = .ok (.iload 7, 2) := by decide +kernel
theorem dX4_readStep_213 : decode cX4_readStep 213 = .ok (.iastore, 1) := by decide +kernel
theorem dX4_readStep_214 : decode cX4_readStep 214 = .ok (.aload_n 0, 1) := by decide +kernel
theorem dX4_readStep_215 : decode cX4_readStep 215 = .ok (.getfield 20, 3) := by decide +kernel
theorem dX4_readStep_218 : decode cX4_readStep 218 = .ok (.iload 8, 2) := by decide +kernel
theorem dX4_readStep_220 : decode cX4_readStep 220 = .ok (.bipush 7, 2) := by decide +kernel
theorem dX4_readStep_222 : decode cX4_readStep 222 = .ok (.iadd, 1) := by decide +kernel
theorem dX4_readStep_223 : decode cX4_readStep 223 = .ok (.iload 7, 2) := by decide +kernel
theorem dX4_readStep_225 : decode cX4_readStep 225 = .ok (.iastore, 1) := by decide +kernel
theorem dX4_readStep_226 : decode cX4_readStep 226 = .ok (.aload_n 0, 1) := by decide +kernel
theorem dX4_readStep_227 : decode cX4_readStep 227 = .ok (.getfield 20, 3) := by decide +kernel
theorem dX4_readStep_230 : decode cX4_readStep 230 = .ok (.iload 8, 2) := by decide +kernel
theorem dX4_readStep_232 : decode cX4_readStep 232 = .ok (.bipush 8, 2) := by decide +kernel
theorem dX4_readStep_234 : decode cX4_readStep 234 = .ok (.iadd, 1) := by decide +kernel
theorem dX4_readStep_235 : decode cX4_readStep 235 = .ok (.iconst 0, 1) := by decide +kernel
theorem dX4_readStep_236 : decode cX4_readStep 236 = .ok (.iastore, 1) := by decide +kernel
theorem dX4_readStep_237 : decode cX4_readStep 237 = .ok (.aload_n 0, 1) := by decide +kernel
theorem dX4_readStep_238 : decode cX4_readStep 238 = .ok (.getfield 20, 3) := by decide +kernel
theorem dX4_readStep_241 : decode cX4_readStep 241 = .ok (.iconst 3, 1) := by decide +kernel
theorem dX4_readStep_242 : decode cX4_readStep 242 = .ok (.dup2, 1) := by decide +kernel
theorem dX4_readStep_243 : decode cX4_readStep 243 = .ok (.iaload, 1) := by decide +kernel
theorem dX4_readStep_244 : decode cX4_readStep 244 = .ok (.iconst 1, 1) := by decide +kernel
theorem dX4_readStep_245 : decode cX4_readStep 245 = .ok (.iadd, 1) := by decide +kernel
theorem dX4_readStep_246 : decode cX4_readStep 246 = .ok (.iastore, 1) := by decide +kernel
theorem dX4_readStep_247 : decode cX4_readStep 247 = .ok (.aload_n 0, 1) := by decide +kernel
theorem dX4_readStep_248 : decode cX4_readStep 248 = .ok (.getfield 20, 3) := by decide +kernel
theorem dX4_readStep_251 : decode cX4_readStep 251 = .ok (.bipush 19, 2) := by decide +kernel
theorem dX4_readStep_253 : decode cX4_readStep 253 = .ok (.bipush 9, 2) := by decide +kernel
theorem dX4_readStep_255 : decode cX4_readStep 255 = .ok (.iload_n 1, 1) := by decide +kernel
theorem dX4_readStep_256 : decode cX4_readStep 256 = .ok (.imul, 1) := by decide +kernel
theorem dX4_readStep_257 : decode cX4_readStep 257 = .ok (.iadd, 1) := by decide +kernel
theorem dX4_readStep_258 : decode cX4_readStep 258 = .ok (.iconst 3, 1) := by decide +kernel
theorem dX4_readStep_259 : decode cX4_readStep 259 = .ok (.iadd, 1) := by decide +kernel
theorem dX4_readStep_260 : decode cX4_readStep 260 = .ok (.dup2, 1) := by decide +kernel
theorem dX4_readStep_261 : decode cX4_readStep 261 = .ok (.iaload, 1) := by decide +kernel
theorem dX4_readStep_262 : decode cX4_readStep 262 = .ok (.iconst 1, 1) := by decide +kernel
theorem dX4_readStep_263 : decode cX4_readStep 263 = .ok (.iadd, 1) := by decide +kernel
theorem dX4_readStep_264 : decode cX4_readStep 264 = .ok (.iastore, 1) := by decide +kernel
theorem dX4_readStep_265 : decode cX4_readStep 265 = .ok (.return_, 1) := by decide +kernel
set_option maxRecDepth 20000 in
theorem ggX4_readStage_X4_readStep : GoodIn wsX4_readStage wsX4_readStep := goodIn_r _ [6, 7, 8, 9, 10, 11, 5, 12, 1, 13, 14, 15, 16, 17, 18, 19, 20, 21, 22, 23, 24, 25, 26, 27, 28, 29, 30, 31, 32, 33, 34, 35, 36, 37, 38, 39, 40, 41, 42, 43, 44, 45, 46, 47, 48, 49, 50, 51, 52, 53, 54, 55, 56, 57, 58, 59, 60, 61, 62, 63, 64, 65, 66, 67, 68, 69, 70, 71, 72, 73, 74, 75, 76, 77, 78, 79, 80, 81, 82, 83, 84, 85, 86, 87, 88, 89, 90, 91, 92, 93, 94, 95, 96, 97, 98, 99, 100, 101, 102, 103, 104, 105, 106, 107, 108, 109, 110, 111, 112, 113, 114] (by decide +kernel) (by decide +kernel)
set_option maxRecDepth 20000 in
theorem gX4_readStage_X4_readStep : GoodIn wsX4_readStage (wsV RX4 112 RX4 yX4_readStep wsX4_readStep) := goodIn_app (goodIn_of _ (by decide +kernel)) ggX4_readStage_X4_readStep
set_option maxRecDepth 20000 in
theorem ggX4_readStage_X4_isGood : GoodIn wsX4_readStage wsX4_isGood := goodIn_r _ [17, 18, 100, 101, 102, 103, 104, 105, 106, 107, 108, 109, 110, 111, 112, 113, 114] (by decide +kernel) (by decide +kernel)
set_option maxRecDepth 20000 in
theorem gX4_readStage_X4_isGood : GoodIn wsX4_readStage (wsV RX4 61 RX4 yX4_isGood wsX4_isGood) := goodIn_app (goodIn_of _ (by decide +kernel)) ggX4_readStage_X4_isGood
set_option maxRecDepth 20000 in
theorem ggX4_readStage_X4_next : GoodIn wsX4_readStage wsX4_next := goodIn_r _ [22, 1, 23, 24, 25, 5, 26, 27, 28, 100, 101, 102, 103, 104, 105, 106, 107, 108, 109, 110, 111, 112, 113, 114] (by decide +kernel) (by decide +kernel)
set_option maxRecDepth 20000 in
theorem gX4_readStage_X4_next : GoodIn wsX4_readStage (wsV RX4 65 RX4 yX4_next wsX4_next) := goodIn_app (goodIn_of _ (by decide +kernel)) ggX4_readStage_X4_next
set_option maxRecDepth 20000 in
theorem ggX4_readStage_X4_takeWord : GoodIn wsX4_readStage wsX4_takeWord := goodIn_r _ [50, 1, 14, 15, 16, 5, 17, 18, 19, 20, 21, 22, 23, 24, 25, 26, 27, 28, 51, 52, 53, 54, 55, 56, 57, 58, 59, 60, 61, 62, 63, 64, 65, 66, 67, 68, 69, 70, 71, 72, 73, 74, 75, 76, 77, 78, 79, 80, 81, 82, 83, 84, 85, 86, 87, 88, 89, 90, 91, 92, 93, 94, 95, 96, 97, 98, 99, 32, 33, 34, 100, 101, 102, 103, 104, 105, 106, 107, 108, 109, 110, 111, 112, 113, 114] (by decide +kernel) (by decide +kernel)
set_option maxRecDepth 20000 in
theorem gX4_readStage_X4_takeWord : GoodIn wsX4_readStage (wsV RX4 106 RX4 yX4_takeWord wsX4_takeWord) := goodIn_app (goodIn_of _ (by decide +kernel)) ggX4_readStage_X4_takeWord
set_option maxRecDepth 20000 in
theorem ggX4_readStage_X4_report : GoodIn wsX4_readStage wsX4_report := goodIn_r _ [38, 18, 39, 100, 101, 102, 103, 104, 105, 106, 107, 108, 109, 110, 111, 112, 113, 114] (by decide +kernel) (by decide +kernel)
set_option maxRecDepth 20000 in
theorem gX4_readStage_X4_report : GoodIn wsX4_readStage (wsV RX4 78 RX4 yX4_report wsX4_report) := goodIn_app (goodIn_of _ (by decide +kernel)) ggX4_readStage_X4_report
theorem dX4_readStage_0 : decode cX4_readStage 0 = .ok (.aload_n 0, 1) := by decide +kernel
theorem dX4_readStage_1 : decode cX4_readStage 1 = .ok (.iload_n 1, 1) := by decide +kernel
theorem dX4_readStage_2 : decode cX4_readStage 2 = .ok (.iload_n 2, 1) := by decide +kernel
theorem dX4_readStage_3 : decode cX4_readStage 3 = .ok (.invokevirtual 112, 3) := by decide +kernel
theorem dX4_readStage_6 : decode cX4_readStage 6 = .ok (.iconst 1, 1) := by decide +kernel
theorem dX4_readStage_7 : decode cX4_readStage 7 = .ok (.istore_n 3, 1) := by decide +kernel
theorem dX4_readStage_8 : decode cX4_readStage 8 = .ok (.aload_n 0, 1) := by decide +kernel
theorem dX4_readStage_9 : decode cX4_readStage 9 = .ok (.invokevirtual 61, 3) := by decide +kernel
theorem dX4_readStage_12 : decode cX4_readStage 12 = .ok (.ifCond .eq 49, 3) := by decide +kernel
theorem dX4_readStage_15 : decode cX4_readStage 15 = .ok (.aload_n 0, 1) := by decide +kernel
theorem dX4_readStage_16 : decode cX4_readStage 16 = .ok (.invokevirtual 65, 3) := by decide +kernel
theorem dX4_readStage_19 : decode cX4_readStage 19 = .ok (.pop, 1) := by decide +kernel
theorem dX4_readStage_20 : decode cX4_readStage 20 = .ok (.aload_n 0, 1) := by decide +kernel
theorem dX4_readStage_21 : decode cX4_readStage 21 = .ok (.getfield 44, 3) := by decide +kernel
theorem dX4_readStage_24 : decode cX4_readStage 24 = .ok (.istore 4, 2) := by decide +kernel
theorem dX4_readStage_26 : decode cX4_readStage 26 = .ok (.aload_n 0, 1) := by decide +kernel
theorem dX4_readStage_27 : decode cX4_readStage 27 = .ok (.ldc 115, 2) := by decide +kernel
theorem dX4_readStage_29 : decode cX4_readStage 29 = .ok (.invokevirtual 106, 3) := by decide +kernel
theorem dX4_readStage_32 : decode cX4_readStage 32 = .ok (.ifCond .ne 4, 3) := by decide +kernel
theorem dX4_readStage_35 : decode cX4_readStage 35 = .ok (.return_, 1) := by decide +kernel
theorem dX4_readStage_36 : decode cX4_readStage 36 = .ok (.iload_n 3, 1) := by decide +kernel
theorem dX4_readStage_37 : decode cX4_readStage 37 = .ok (.iconst 3, 1) := by decide +kernel
theorem dX4_readStage_38 : decode cX4_readStage 38 = .ok (.if_icmp .ne 11, 3) := by decide +kernel
theorem dX4_readStage_41 : decode cX4_readStage 41 = .ok (.aload_n 0, 1) := by decide +kernel
theorem dX4_readStage_42 : decode cX4_readStage 42 = .ok (.bipush (-4), 2) := by decide +kernel
theorem dX4_readStage_44 : decode cX4_readStage 44 = .ok (.iload 4, 2) := by decide +kernel
theorem dX4_readStage_46 : decode cX4_readStage 46 = .ok (.invokevirtual 78, 3) := by decide +kernel
theorem dX4_readStage_49 : decode cX4_readStage 49 = .ok (.aload_n 0, 1) := by decide +kernel
theorem dX4_readStage_50 : decode cX4_readStage 50 = .ok (.iload_n 1, 1) := by decide +kernel
theorem dX4_readStage_51 : decode cX4_readStage 51 = .ok (.iload_n 2, 1) := by decide +kernel
theorem dX4_readStage_52 : decode cX4_readStage 52 = .ok (.invokevirtual 112, 3) := by decide +kernel
theorem dX4_readStage_55 : decode cX4_readStage 55 = .ok (.iinc 3 1, 3) := by decide +kernel
theorem dX4_readStage_58 : decode cX4_readStage 58 = .ok (.goto (-50), 3) := by decide +kernel
theorem dX4_readStage_61 : decode cX4_readStage 61 = .ok (.return_, 1) := by decide +kernel
set_option maxRecDepth 20000 in
theorem ggX4_readJourney_X4_report : GoodIn wsX4_readJourney wsX4_report := goodIn_r _ [7, 8, 9, 104, 105, 106, 107, 108, 109, 110, 111, 112, 113, 114, 115, 116, 117, 118] (by decide +kernel) (by decide +kernel)
set_option maxRecDepth 20000 in
theorem gX4_readJourney_X4_report : GoodIn wsX4_readJourney (wsV RX4 78 RX4 yX4_report wsX4_report) := goodIn_app (goodIn_of _ (by decide +kernel)) ggX4_readJourney_X4_report
set_option maxRecDepth 20000 in
theorem ggX4_readJourney_X4_number : GoodIn wsX4_readJourney wsX4_number := goodIn_r _ [13, 2, 14, 15, 16, 17, 18, 6, 19, 8, 20, 21, 22, 23, 24, 25, 26, 27, 28, 29, 30, 31, 32, 33, 34, 35, 3, 4, 5, 7, 9, 36, 37, 38, 104, 105, 106, 107, 108, 109, 110, 111, 112, 113, 114, 115, 116, 117, 118] (by decide +kernel) (by decide +kernel)
set_option maxRecDepth 20000 in
theorem gX4_readJourney_X4_number : GoodIn wsX4_readJourney (wsV RX4 97 RX4 yX4_number wsX4_number) := goodIn_app (goodIn_of _ (by decide +kernel)) ggX4_readJourney_X4_number
set_option maxRecDepth 20000 in
theorem ggX4_readJourney_X4_isGood : GoodIn wsX4_readJourney wsX4_isGood := goodIn_r _ [19, 8, 104, 105, 106, 107, 108, 109, 110, 111, 112, 113, 114, 115, 116, 117, 118] (by decide +kernel) (by decide +kernel)
set_option maxRecDepth 20000 in
theorem gX4_readJourney_X4_isGood : GoodIn wsX4_readJourney (wsV RX4 61 RX4 yX4_isGood wsX4_isGood) := goodIn_app (goodIn_of _ (by decide +kernel)) ggX4_readJourney_X4_isGood
set_option maxRecDepth 20000 in
theorem ggX4_readJourney_X4_readStage : GoodIn wsX4_readJourney wsX4_readStage := goodIn_r _ [42, 2, 43, 44, 45, 6, 46, 1, 14, 10, 11, 12, 13, 15, 16, 17, 18, 19, 8, 20, 21, 22, 23, 24, 25, 26, 27, 28, 29, 30, 31, 32, 33, 34, 35, 3, 4, 5, 7, 9, 36, 37, 38, 47, 48, 49, 50, 51, 52, 53, 54, 55, 56, 57, 58, 59, 60, 61, 62, 63, 64, 65, 66, 67, 68, 69, 70, 71, 72, 73, 74, 75, 76, 77, 78, 79, 80, 81, 82, 83, 84, 85, 86, 87, 88, 89, 90, 91, 92, 93, 94, 95, 96, 97, 98, 99, 100, 101, 102, 103, 104, 105, 106, 107, 108, 109, 110, 111, 112, 113, 114, 115, 116, 117, 118] (by decide +kernel) (by decide +kernel)
set_option maxRecDepth 20000 in
theorem gX4_readJourney_X4_readStage : GoodIn wsX4_readJourney (wsV RX4 117 RX4 yX4_readStage wsX4_readStage) := goodIn_app (goodIn_of _ (by decide +kernel)) ggX4_readJourney_X4_readStage
set_option maxRecDepth 20000 in
theorem ggX4_readJourney_X4_next : GoodIn wsX4_readJourney wsX4_next := goodIn_r _ [23, 2, 24, 25, 26, 6, 27, 28, 29, 104, 105, 106, 107, 108, 109, 110, 111, 112, 113, 114, 115, 116, 117, 118] (by decide +kernel) (by decide +kernel)
set_option maxRecDepth 20000 in
theorem gX4_readJourney_X4_next : GoodIn wsX4_readJourney (wsV RX4 65 RX4 yX4_next wsX4_next) := goodIn_app (goodIn_of _ (by decide +kernel)) ggX4_readJourney_X4_next
set_option maxRecDepth 20000 in
theorem ggX4_readJourney_X4_takeWord : GoodIn wsX4_readJourney wsX4_takeWord := goodIn_r _ [54, 2, 16, 17, 18, 6, 19, 8, 20, 21, 22, 23, 24, 25, 26, 27, 28, 29, 55, 56, 57, 58, 59, 60, 61, 62, 63, 64, 65, 66, 67, 68, 69, 70, 71, 72, 73, 74, 75, 76, 77, 78, 79, 80, 81, 82, 83, 84, 85, 86, 87, 88, 89, 90, 91, 92, 93, 94, 95, 96, 97, 98, 99, 100, 101, 102, 103, 33, 34, 35, 104, 105, 106, 107, 108, 109, 110, 111, 112, 113, 114, 115, 116, 117, 118] (by decide +kernel) (by decide +kernel)
set_option maxRecDepth 20000 in
theorem gX4_readJourney_X4_takeWord : GoodIn wsX4_readJourney (wsV RX4 106 RX4 yX4_takeWord wsX4_takeWord) := goodIn_app (goodIn_of _ (by decide +kernel)) ggX4_readJourney_X4_takeWord
theorem dX4_readJourney_0 : decode cX4_readJourney 0 = .ok (.aload_n 0, 1) := by decide +kernel
theorem dX4_readJourney_1 : decode cX4_readJourney 1 = .ok (.getfield 20, 3) := by decide +kernel
theorem dX4_readJourney_4 : decode cX4_readJourney 4 = .ok (.iconst 2, 1) := by decide +kernel
theorem dX4_readJourney_5 : decode cX4_readJourney 5 = .ok (.iaload, 1) := by decide +kernel
theorem dX4_readJourney_6 : decode cX4_readJourney 6 = .ok (.bipush 8, 2) := by decide +kernel
theorem dX4_readJourney_8 : decode cX4_readJourney 8 = .ok (.if_icmp .ne 10, 3) := by decide +kernel
theorem dX4_readJourney_11 : decode cX4_readJourney 11 = .ok (.aload_n 0, 1) := by decide +kernel
theorem dX4_readJourney_12 : decode cX4_readJourney 12 = .ok (.bipush (-4), 2) := by decide +kernel
theorem dX4_readJourney_14 : decode cX4_readJourney 14 = .ok (.iload_n 1, 1) := by decide +kernel
theorem dX4_readJourney_15 : decode cX4_readJourney 15 = .ok (.invokevirtual 78, 3) := by decide +kernel
theorem dX4_readJourney_18 : decode cX4_readJourney 18 = .ok (.aload_n 0, 1) := by decide +kernel
theorem dX4_readJourney_19 : decode cX4_readJourney 19 = .ok (.getfield 20, 3) := by decide +kernel
theorem dX4_readJourney_22 : decode cX4_readJourney 22 = .ok (.iconst 2, 1) := by decide +kernel
theorem dX4_readJourney_23 : decode cX4_readJourney 23 = .ok (.iaload, 1) := by decide +kernel
theorem dX4_readJourney_24 : decode cX4_readJourney 24 = .ok (.istore_n 2, 1) := by decide +kernel
theorem dX4_readJourney_25 : decode cX4_readJourney 25 = .ok (.aload_n 0, 1) := by decide +kernel
theorem dX4_readJourney_26 : decode cX4_readJourney 26 = .ok (.iconst 0, 1) := by decide +kernel
theorem dX4_readJourney_27 : decode cX4_readJourney 27 = .ok (.sipush 999, 3) := by decide +kernel
theorem dX4_readJourney_30 : decode cX4_readJourney 30 = .ok (.invokevirtual 97, 3) := by decide +kernel
theorem dX4_readJourney_33 : decode cX4_readJourney 33 = .ok (.istore_n 3, 1) := by decide +kernel
theorem dX4_readJourney_34 : decode cX4_readJourney 34 = .ok (.aload_n 0, 1) := by decide +kernel
theorem dX4_readJourney_35 : decode cX4_readJourney 35 = .ok (.invokevirtual 61, 3) := by decide +kernel
theorem dX4_readJourney_38 : decode cX4_readJourney 38 = .ok (.ifCond .ne 4, 3) := by decide +kernel
theorem dX4_readJourney_41 : decode cX4_readJourney 41 = .ok (.return_, 1) := by decide +kernel
theorem dX4_readJourney_42 : decode cX4_readJourney 42 = .ok (.bipush 19, 2) := by decide +kernel
theorem dX4_readJourney_44 : decode cX4_readJourney 44 = .ok (.bipush 9, 2) := by decide +kernel
theorem dX4_readJourney_46 : decode cX4_readJourney 46 = .ok (.iload_n 2, 1) := by decide +kernel
theorem dX4_readJourney_47 : decode cX4_readJourney 47 = .ok (.imul, 1) := by decide +kernel
theorem dX4_readJourney_48 : decode cX4_readJourney 48 = .ok (.iadd, 1) := by decide +kernel
theorem dX4_readJourney_49 : decode cX4_readJourney 49 = .ok (.istore 4, 2) := by decide +kernel
theorem dX4_readJourney_51 : decode cX4_readJourney 51 = .ok (.aload_n 0, 1) := by decide +kernel
theorem dX4_readJourney_52 : decode cX4_readJourney 52 = .ok (.getfield 20, 3) := by decide +kernel
theorem dX4_readJourney_55 : decode cX4_readJourney 55 = .ok (.iload 4, 2) := by decide +kernel
theorem dX4_readJourney_57 : decode cX4_readJourney 57 = .ok (.iconst 0, 1) := by decide +kernel
theorem dX4_readJourney_58 : decode cX4_readJourney 58 = .ok (.iadd, 1) := by decide +kernel
theorem dX4_readJourney_59 : decode cX4_readJourney 59 = .ok (.iconst 0, 1) := by decide +kernel
theorem dX4_readJourney_60 : decode cX4_readJourney 60 = .ok (.iastore, 1) := by decide +kernel
theorem dX4_readJourney_61 : decode cX4_readJourney 61 = .ok (.aload_n 0, 1) := by decide +kernel
theorem dX4_readJourney_62 : decode cX4_readJourney 62 = .ok (.getfield 20, 3) := by decide +kernel
theorem dX4_readJourney_65 : decode cX4_readJourney 65 = .ok (.iload 4, 2) := by decide +kernel
theorem dX4_readJourney_67 : decode cX4_readJourney 67 = .ok (.iconst 1, 1) := by decide +kernel
theorem dX4_readJourney_68 : decode cX4_readJourney 68 = .ok (.iadd, 1) := by decide +kernel
theorem dX4_readJourney_69 : decode cX4_readJourney 69 = .ok (.iload_n 3, 1) := by decide +kernel
theorem dX4_readJourney_70 : decode cX4_readJourney 70 = .ok (.iastore, 1) := by decide +kernel
theorem dX4_readJourney_71 : decode cX4_readJourney 71 = .ok (.aload_n 0, 1) := by decide +kernel
theorem dX4_readJourney_72 : decode cX4_readJourney 72 = .ok (.getfield 20, 3) := by decide +kernel
theorem dX4_readJourney_75 : decode cX4_readJourney 75 = .ok (.iload 4, 2) := by decide +kernel
theorem dX4_readJourney_77 : decode cX4_readJourney 77 = .ok (.iconst 4, 1) := by decide +kernel
theorem dX4_readJourney_78 : decode cX4_readJourney 78 = .ok (.iadd, 1) := by decide +kernel
theorem dX4_readJourney_79 : decode cX4_readJourney 79 = .ok (.iconst (-1), 1) := by decide +kernel
theorem dX4_readJourney_80 : decode cX4_readJourney 80 = .ok (.iastore, 1) := by decide +kernel
theorem dX4_readJourney_81 : decode cX4_readJourney 81 = .ok (.aload_n 0, 1) := by decide +kernel
theorem dX4_readJourney_82 : decode cX4_readJourney 82 = .ok (.getfield 20, 3) := by decide +kernel
theorem dX4_readJourney_85 : decode cX4_readJourney 85 = .ok (.iload 4, 2) := by decide +kernel
theorem dX4_readJourney_87 : decode cX4_readJourney 87 = .ok (.iconst 5, 1) := by decide +kernel
theorem dX4_readJourney_88 : decode cX4_readJourney 88 = .ok (.iadd, 1) := by decide +kernel
theorem dX4_readJourney_89 : decode cX4_readJourney 89 = .ok (.iconst (-1), 1) := by decide +kernel
theorem dX4_readJourney_90 : decode cX4_readJourney 90 = .ok (.iastore, 1) := by decide +kernel
theorem dX4_readJourney_91 : decode cX4_readJourney 91 = .ok (.aload_n 0, 1) := by decide +kernel
theorem dX4_readJourney_92 : decode cX4_readJourney 92 = .ok (.getfield 20, 3) := by decide +kernel
theorem dX4_readJourney_95 : decode cX4_readJourney 95 = .ok (.iload 4, 2) := by decide +kernel
theorem dX4_readJourney_97 : decode cX4_readJourney 97 = .ok (.bipush 6, 2) := by decide +kernel
theorem dX4_readJourney_99 : decode cX4_readJourney 99 = .ok (.iadd, 1) := by decide +kernel
theorem dX4_readJourney_100 : decode cX4_readJourney 100 = .ok (.aload_n 0, 1) := by decide +kernel
theorem dX4_readJourney_101 : decode cX4_readJourney 101 = .ok (.getfield 20, 3) := by decide +kernel
theorem dX4_readJourney_104 : decode cX4_readJourney 104 = .ok (.iconst 3, 1) := by decide +kernel
theorem dX4_readJourney_105 : decode cX4_readJourney 105 = .ok (.iaload, 1) := by decide +kernel
theorem dX4_readJourney_106 : decode cX4_readJourney 106 = .ok (.iastore, 1) := by decide +kernel
theorem dX4_readJourney_107 : decode cX4_readJourney 107 = .ok (.iconst 1, 1) := by decide +kernel
theorem dX4_readJourney_108 : decode cX4_readJourney 108 = .ok (.istore 5, 2) := by decide +kernel
theorem dX4_readJourney_110 : decode cX4_readJourney 110 = .ok (.iconst 0, 1) := by decide +kernel
theorem dX4_readJourney_111 : decode cX4_readJourney 111 = .ok (.istore 6, 2) := by decide +kernel
theorem dX4_readJourney_113 : decode cX4_readJourney 113 = .ok (.aload_n 0, 1) := by decide +kernel
theorem dX4_readJourney_114 : decode cX4_readJourney 114 = .ok (.invokevirtual 61, 3) := by decide +kernel
theorem dX4_readJourney_117 : decode cX4_readJourney 117 = .ok (.ifCond .eq 74, 3) := by decide +kernel
theorem dX4_readJourney_120 : decode cX4_readJourney 120 = .ok (.iload 5, 2) := by decide +kernel
theorem dX4_readJourney_122 : decode cX4_readJourney 122 = .ok (.ifCond .eq 69, 3) := by decide +kernel
theorem dX4_readJourney_125 : decode cX4_readJourney 125 = .ok (.aload_n 0, 1) := by decide +kernel
theorem dX4_readJourney_126 : decode cX4_readJourney 126 = .ok (.iload_n 2, 1) := by decide +kernel
theorem dX4_readJourney_127 : decode cX4_readJourney 127 = .ok (.iload 6, 2) := by decide +kernel
theorem dX4_readJourney_129 : decode cX4_readJourney 129 = .ok (.invokevirtual 117, 3) := by decide +kernel
theorem dX4_readJourney_132 : decode cX4_readJourney 132 = .ok (.aload_n 0, 1) := by decide +kernel
theorem dX4_readJourney_133 : decode cX4_readJourney 133 = .ok (.getfield 20, 3) := by decide +kernel
theorem dX4_readJourney_136 : decode cX4_readJourney 136 = .ok (.iload 4, 2) := by decide +kernel
theorem dX4_readJourney_138 : decode cX4_readJourney 138 = .ok (.iconst 2, 1) := by decide +kernel
theorem dX4_readJourney_139 : decode cX4_readJourney 139 = .ok (.iadd, 1) := by decide +kernel
theorem dX4_readJourney_140 : decode cX4_readJourney 140 = .ok (.iload 6, 2) := by decide +kernel
theorem dX4_readJourney_142 : decode cX4_readJourney 142 = .ok (.iconst 1, 1) := by decide +kernel
theorem dX4_readJourney_143 : decode cX4_readJourney 143 = .ok (.iadd, 1) := by decide +kernel
theorem dX4_readJourney_144 : decode cX4_readJourney 144 = .ok (.iastore, 1) := by decide +kernel
theorem dX4_readJourney_145 : decode cX4_readJourney 145 = .ok (.aload_n 0, 1) := by decide +kernel
theorem dX4_readJourney_146 : decode cX4_readJourney 146 = .ok (.invokevirtual 65, 3) := by decide +kernel
theorem dX4_readJourney_149 : decode cX4_readJourney 149 = .ok (.pop, 1) := by decide +kernel
theorem dX4_readJourney_150 : decode cX4_readJourney 150 = .ok (.aload_n 0, 1) := by decide +kernel
theorem dX4_readJourney_151 : decode cX4_readJourney 151 = .ok (.getfield 44, 3) := by decide +kernel
theorem dX4_readJourney_154 : decode cX4_readJourney 154 = .ok (.istore 7, 2) := by decide +kernel
theorem dX4_readJourney_156 : decode cX4_readJourney 156 = .ok (.aload_n 0, 1) := by decide +kernel
theorem dX4_readJourney_157 : decode cX4_readJourney 157 = .ok (.ldc 120, 2) := by decide +kernel
theorem dX4_readJourney_159 : decode cX4_readJourney 159 = .ok (.invokevirtual 106, 3) := by decide +kernel
theorem dX4_readJourney_162 : decode cX4_readJourney 162 = .ok (.istore 5, 2) := by decide +kernel
theorem dX4_readJourney_164 : decode cX4_readJourney 164 = .ok (.iload 5, 2) := by decide +kernel
theorem dX4_readJourney_166 : decode cX4_readJourney 166 = .ok (.ifCond .eq 19, 3) := by decide +kernel
theorem dX4_readJourney_169 : decode cX4_readJourney 169 = .ok (.iload 6, 2) := by decide +kernel
theorem dX4_readJourney_171 : decode cX4_readJourney 171 = .ok (.iconst 1, 1) := by decide +kernel
theorem dX4_readJourney_172 : decode cX4_readJourney 172 = .ok (.iadd, 1) := by decide +kernel
theorem dX4_readJourney_173 : decode cX4_readJourney 173 = .ok (.iconst 5, 1) := by decide +kernel
theorem dX4_readJourney_174 : decode cX4_readJourney 174 = .ok (.if_icmp .ne 11, 3) := by decide +kernel
theorem dX4_readJourney_177 : decode cX4_readJourney 177 = .ok (.aload_n 0, 1) := by decide +kernel
theorem dX4_readJourney_178 : decode cX4_readJourney 178 = .ok (.bipush (-4), 2) := by decide +kernel
theorem dX4_readJourney_180 : decode cX4_readJourney 180 = .ok (.iload 7, 2) := by decide +kernel
theorem dX4_readJourney_182 : decode cX4_readJourney 182 = .ok (.invokevirtual 78, 3) := by decide +kernel
theorem dX4_readJourney_185 : decode cX4_readJourney 185 = .ok (.iinc 6 1, 3) := by decide +kernel
theorem dX4_readJourney_188 : decode cX4_readJourney 188 = .ok (.goto (-75), 3) := by decide +kernel
theorem dX4_readJourney_191 : decode cX4_readJourney 191 = .ok (.aload_n 0, 1) := by decide +kernel
theorem dX4_readJourney_192 : decode cX4_readJourney 192 = .ok (.getfield 20, 3) := by decide +kernel
theorem dX4_readJourney_195 : decode cX4_readJourney 195 = .ok (.iconst 2, 1) := by decide +kernel
theorem dX4_readJourney_196 : decode cX4_readJourney 196 = .ok (.dup2, 1) := by decide +kernel
theorem dX4_readJourney_197 : decode cX4_readJourney 197 = .ok (.iaload, 1) := by decide +kernel
theorem dX4_readJourney_198 : decode cX4_readJourney 198 = .ok (.iconst 1, 1) := by decide +kernel
theorem dX4_readJourney_199 : decode cX4_readJourney 199 = .ok (.iadd, 1) := by decide +kernel
theorem dX4_readJourney_200 : decode cX4_readJourney 200 = .ok (.iastore, 1) := by decide +kernel
theorem dX4_readJourney_201 : decode cX4_readJourney 201 = .ok (.return_, 1) := by decide +kernel
set_option maxRecDepth 20000 in
theorem ggX4_statement_X4_next : GoodIn wsX4_statement wsX4_next := goodIn_r _ [7, 1, 8, 9, 10, 6, 11, 12, 13, 117, 118, 119, 120, 121, 122, 123, 124, 125, 126, 127, 128, 129, 130, 131] (by decide +kernel) (by decide +kernel)
set_option maxRecDepth 20000 in
theorem gX4_statement_X4_next : GoodIn wsX4_statement (wsV RX4 65 RX4 yX4_next wsX4_next) := goodIn_app (goodIn_of _ (by decide +kernel)) ggX4_statement_X4_next
set_option maxRecDepth 20000 in
theorem ggX4_statement_X4_takeWord : GoodIn wsX4_statement wsX4_takeWord := goodIn_r _ [17, 1, 18, 19, 20, 6, 21, 22, 3, 4, 5, 7, 8, 9, 10, 11, 12, 13, 23, 24, 25, 26, 27, 28, 29, 30, 31, 32, 33, 34, 35, 36, 37, 38, 39, 40, 41, 42, 43, 44, 45, 46, 47, 48, 49, 50, 51, 52, 53, 54, 55, 56, 57, 58, 59, 60, 61, 62, 63, 64, 65, 66, 67, 68, 69, 70, 71, 72, 73, 74, 117, 118, 119, 120, 121, 122, 123, 124, 125, 126, 127, 128, 129, 130, 131] (by decide +kernel) (by decide +kernel)
set_option maxRecDepth 20000 in
theorem gX4_statement_X4_takeWord : GoodIn wsX4_statement (wsV RX4 106 RX4 yX4_takeWord wsX4_takeWord) := goodIn_app (goodIn_of _ (by decide +kernel)) ggX4_statement_X4_takeWord
set_option maxRecDepth 20000 in
theorem ggX4_statement_X4_readStock : GoodIn wsX4_statement wsX4_readStock := goodIn_r _ [78, 2, 79, 80, 81, 6, 82, 22, 83, 84, 85, 86, 87, 1, 88, 89, 18, 19, 20, 21, 3, 4, 5, 7, 8, 9, 10, 11, 12, 13, 90, 91, 92, 72, 73, 74, 93, 94, 95, 117, 118, 119, 120, 121, 122, 123, 124, 125, 126, 127, 128, 129, 130, 131] (by decide +kernel) (by decide +kernel)
set_option maxRecDepth 20000 in
theorem gX4_statement_X4_readStock : GoodIn wsX4_statement (wsV RX4 124 RX4 yX4_readStock wsX4_readStock) := goodIn_app (goodIn_of _ (by decide +kernel)) ggX4_statement_X4_readStock
set_option maxRecDepth 20000 in
theorem ggX4_statement_X4_readJourney : GoodIn wsX4_statement wsX4_readJourney := goodIn_r _ [99, 2, 1, 79, 80, 81, 6, 82, 22, 83, 84, 85, 86, 87, 88, 89, 18, 19, 20, 21, 3, 4, 5, 7, 8, 9, 10, 11, 12, 13, 90, 91, 92, 72, 73, 74, 93, 94, 95, 100, 101, 102, 103, 104, 105, 106, 107, 108, 109, 110, 111, 14, 15, 16, 17, 23, 24, 25, 26, 27, 28, 29, 30, 31, 32, 33, 34, 35, 36, 37, 38, 39, 40, 41, 42, 43, 44, 45, 46, 47, 48, 49, 50, 51, 52, 53, 54, 55, 56, 57, 58, 59, 60, 61, 62, 63, 64, 65, 66, 67, 68, 69, 70, 71, 117, 118, 119, 120, 121, 122, 123, 124, 125, 126, 127, 128, 129, 130, 131] (by decide +kernel) (by decide +kernel)
set_option maxRecDepth 20000 in
theorem gX4_statement_X4_readJourney : GoodIn wsX4_statement (wsV RX4 129 RX4 yX4_readJourney wsX4_readJourney) := goodIn_app (goodIn_of _ (by decide +kernel)) ggX4_statement_X4_readJourney
set_option maxRecDepth 20000 in
theorem ggX4_statement_X4_once : GoodIn wsX4_statement wsX4_once := goodIn_r _ [115, 116, 79, 80, 81, 6, 82, 22, 83, 117, 118, 119, 120, 121, 122, 123, 124, 125, 126, 127, 128, 129, 130, 131] (by decide +kernel) (by decide +kernel)
set_option maxRecDepth 20000 in
theorem gX4_statement_X4_once : GoodIn wsX4_statement (wsV RX4 134 RX4 yX4_once wsX4_once) := goodIn_app (goodIn_of _ (by decide +kernel)) ggX4_statement_X4_once
set_option maxRecDepth 20000 in
theorem ggX4_statement_X4_number : GoodIn wsX4_statement wsX4_number := goodIn_r _ [87, 1, 88, 89, 18, 19, 20, 6, 21, 22, 3, 4, 5, 7, 8, 9, 10, 11, 12, 13, 90, 91, 92, 72, 73, 74, 79, 80, 81, 82, 83, 93, 94, 95, 117, 118, 119, 120, 121, 122, 123, 124, 125, 126, 127, 128, 129, 130, 131] (by decide +kernel) (by decide +kernel)
set_option maxRecDepth 20000 in
theorem gX4_statement_X4_number : GoodIn wsX4_statement (wsV RX4 97 RX4 yX4_number wsX4_number) := goodIn_app (goodIn_of _ (by decide +kernel)) ggX4_statement_X4_number
set_option maxRecDepth 20000 in
theorem ggX4_statement_X4_report : GoodIn wsX4_statement wsX4_report := goodIn_r _ [82, 22, 83, 117, 118, 119, 120, 121, 122, 123, 124, 125, 126, 127, 128, 129, 130, 131] (by decide +kernel) (by decide +kernel)
set_option maxRecDepth 20000 in
theorem gX4_statement_X4_report : GoodIn wsX4_statement (wsV RX4 78 RX4 yX4_report wsX4_report) := goodIn_app (goodIn_of _ (by decide +kernel)) ggX4_statement_X4_report
set_option maxRecDepth 20000 in
theorem ggX4_statement_X4_expect : GoodIn wsX4_statement wsX4_expect := goodIn_r _ [111, 1, 18, 19, 20, 6, 21, 22, 3, 4, 5, 7, 8, 9, 10, 11, 12, 13, 79, 80, 81, 82, 83, 117, 118, 119, 120, 121, 122, 123, 124, 125, 126, 127, 128, 129, 130, 131] (by decide +kernel) (by decide +kernel)
set_option maxRecDepth 20000 in
theorem gX4_statement_X4_expect : GoodIn wsX4_statement (wsV RX4 100 RX4 yX4_expect wsX4_expect) := goodIn_app (goodIn_of _ (by decide +kernel)) ggX4_statement_X4_expect
theorem dX4_statement_0 : decode cX4_statement 0 = .ok (.aload_n 0, 1) := by decide +kernel
theorem dX4_statement_1 : decode cX4_statement 1 = .ok (.invokevirtual 65, 3) := by decide +kernel
theorem dX4_statement_4 : decode cX4_statement 4 = .ok (.pop, 1) := by decide +kernel
theorem dX4_statement_5 : decode cX4_statement 5 = .ok (.aload_n 0, 1) := by decide +kernel
theorem dX4_statement_6 : decode cX4_statement 6 = .ok (.getfield 44, 3) := by decide +kernel
theorem dX4_statement_9 : decode cX4_statement 9 = .ok (.istore_n 1, 1) := by decide +kernel
theorem dX4_statement_10 : decode cX4_statement 10 = .ok (.aload_n 0, 1) := by decide +kernel
theorem dX4_statement_11 : decode cX4_statement 11 = .ok (.ldc 122, 2) := by decide +kernel
theorem dX4_statement_13 : decode cX4_statement 13 = .ok (.invokevirtual 106, 3) := by decide +kernel
theorem dX4_statement_16 : decode cX4_statement 16 = .ok (.ifCond .eq 11, 3) := by decide +kernel
theorem dX4_statement_19 : decode cX4_statement 19 = .ok (.aload_n 0, 1) := by decide +kernel
theorem dX4_statement_20 : decode cX4_statement 20 = .ok (.iload_n 1, 1) := by decide +kernel
theorem dX4_statement_21 : decode cX4_statement 21 = .ok (.invokevirtual 124, 3) := by decide +kernel
theorem dX4_statement_24 : decode cX4_statement 24 = .ok (.goto 89, 3) := by decide +kernel
theorem dX4_statement_27 : decode cX4_statement 27 = .ok (.aload_n 0, 1) := by decide +kernel
theorem dX4_statement_28 : decode cX4_statement 28 = .ok (.ldc 127, 2) := by decide +kernel
theorem dX4_statement_30 : decode cX4_statement 30 = .ok (.invokevirtual 106, 3) := by decide +kernel
theorem dX4_statement_33 : decode cX4_statement 33 = .ok (.ifCond .eq 11, 3) := by decide +kernel
theorem dX4_statement_36 : decode cX4_statement 36 = .ok (.aload_n 0, 1) := by decide +kernel
theorem dX4_statement_37 : decode cX4_statement 37 = .ok (.iload_n 1, 1) := by decide +kernel
theorem dX4_statement_38 : decode cX4_statement 38 = .ok (.invokevirtual 129, 3) := by decide +kernel
theorem dX4_statement_41 : decode cX4_statement 41 = .ok (.goto 72, 3) := by decide +kernel
theorem dX4_statement_44 : decode cX4_statement 44 = .ok (.aload_n 0, 1) := by decide +kernel
theorem dX4_statement_45 : decode cX4_statement 45 = .ok (.ldc 132, 2) := by decide +kernel
theorem dX4_statement_47 : decode cX4_statement 47 = .ok (.invokevirtual 106, 3) := by decide +kernel
theorem dX4_statement_50 : decode cX4_statement 50 = .ok (.ifCond .eq 25, 3) := by decide +kernel
theorem dX4_statement_53 : decode cX4_statement 53 = .ok (.aload_n 0, 1) := by decide +kernel
theorem dX4_statement_54 : decode cX4_statement 54 = .ok (.iconst 0, 1) := by decide +kernel
theorem dX4_statement_55 : decode cX4_statement 55 = .ok (.iload_n 1, 1) := by decide +kernel
theorem dX4_statement_56 : decode cX4_statement 56 = .ok (.invokevirtual 134, 3) := by decide +kernel
theorem dX4_statement_59 : decode cX4_statement 59 = .ok (.aload_n 0, 1) := by decide +kernel
theorem dX4_statement_60 : decode cX4_statement 60 = .ok (.getfield 20, 3) := by decide +kernel
theorem dX4_statement_63 : decode cX4_statement 63 = .ok (.iconst 4, 1) := by decide +kernel
theorem dX4_statement_64 : decode cX4_statement 64 = .ok (.aload_n 0, 1) := by decide +kernel
theorem dX4_statement_65 : decode cX4_statement 65 = .ok (.iconst 1, 1) := by decide +kernel
theorem dX4_statement_66 : decode cX4_statement 66 = .ok (.bipush 99, 2) := by decide +kernel
theorem dX4_statement_68 : decode cX4_statement 68 = .ok (.invokevirtual 97, 3) := by decide +kernel
theorem dX4_statement_71 : decode cX4_statement 71 = .ok (.iastore, 1) := by decide +kernel
theorem dX4_statement_72 : decode cX4_statement 72 = .ok (.goto 41, 3) := by decide +kernel
theorem dX4_statement_75 : decode cX4_statement 75 = .ok (.aload_n 0, 1) := by decide +kernel
theorem dX4_statement_76 : decode cX4_statement 76 = .ok (.ldc 137, 2) := by decide +kernel
theorem dX4_statement_78 : decode cX4_statement 78 = .ok (.invokevirtual 106, 3) := by decide +kernel
theorem dX4_statement_81 : decode cX4_statement 81 = .ok (.ifCond .eq 25, 3) := by decide +kernel
theorem dX4_statement_84 : decode cX4_statement 84 = .ok (.aload_n 0, 1) := by decide +kernel
theorem dX4_statement_85 : decode cX4_statement 85 = .ok (.iconst 1, 1) := by decide +kernel
theorem dX4_statement_86 : decode cX4_statement 86 = .ok (.iload_n 1, 1) := by decide +kernel
theorem dX4_statement_87 : decode cX4_statement 87 = .ok (.invokevirtual 134, 3) := by decide +kernel
theorem dX4_statement_90 : decode cX4_statement 90 = .ok (.aload_n 0, 1) := by decide +kernel
theorem dX4_statement_91 : decode cX4_statement 91 = .ok (.getfield 20, 3) := by decide +kernel
theorem dX4_statement_94 : decode cX4_statement 94 = .ok (.iconst 5, 1) := by decide +kernel
theorem dX4_statement_95 : decode cX4_statement 95 = .ok (.aload_n 0, 1) := by decide +kernel
theorem dX4_statement_96 : decode cX4_statement 96 = .ok (.iconst 1, 1) := by decide +kernel
theorem dX4_statement_97 : decode cX4_statement 97 = .ok (.bipush 9, 2) := by decide +kernel
theorem dX4_statement_99 : decode cX4_statement 99 = .ok (.invokevirtual 97, 3) := by decide +kernel
theorem dX4_statement_102 : decode cX4_statement 102 = .ok (.iastore, 1) := by decide +kernel
theorem dX4_statement_103 : decode cX4_statement 103 = .ok (.goto 10, 3) := by decide +kernel
theorem dX4_statement_106 : decode cX4_statement 106 = .ok (.aload_n 0, 1) := by decide +kernel
theorem dX4_statement_107 : decode cX4_statement 107 = .ok (.bipush (-2), 2) := by decide +kernel
theorem dX4_statement_109 : decode cX4_statement 109 = .ok (.iload_n 1, 1) := by decide +kernel
theorem dX4_statement_110 : decode cX4_statement 110 = .ok (.invokevirtual 78, 3) := by decide +kernel
theorem dX4_statement_113 : decode cX4_statement 113 = .ok (.aload_n 0, 1) := by decide +kernel
theorem dX4_statement_114 : decode cX4_statement 114 = .ok (.bipush 59, 2) := by decide +kernel
theorem dX4_statement_116 : decode cX4_statement 116 = .ok (.invokevirtual 100, 3) := by decide +kernel
theorem dX4_statement_119 : decode cX4_statement 119 = .ok (.return_, 1) := by decide +kernel
set_option maxRecDepth 20000 in
theorem ggX4_load_X4_in : GoodIn wsX4_load wsX4_in := goodIn_r _ [14] (by decide +kernel) (by decide +kernel)
set_option maxRecDepth 20000 in
theorem gX4_load_X4_in : GoodIn wsX4_load (va_wsS RX4 57 yX4_in wsX4_in) := goodIn_app (goodIn_of _ (by decide +kernel)) ggX4_load_X4_in
set_option maxRecDepth 20000 in
theorem ggX4_load_X4_fails : GoodIn wsX4_load wsX4_fails := goodIn_r _ [18, 1, 141, 142, 143, 144, 145, 146, 147, 148, 149, 150, 151, 152, 153, 154, 155] (by decide +kernel) (by decide +kernel)
set_option maxRecDepth 20000 in
theorem gX4_load_X4_fails : GoodIn wsX4_load (wsV RX4 139 RX4 yX4_fails wsX4_fails) := goodIn_app (goodIn_of _ (by decide +kernel)) ggX4_load_X4_fails
set_option maxRecDepth 20000 in
theorem ggX4_load_X4_layUsual : GoodIn wsX4_load wsX4_layUsual := goodIn_r _ [21] (by decide +kernel) (by decide +kernel)
set_option maxRecDepth 20000 in
theorem gX4_load_X4_layUsual : GoodIn wsX4_load (va_wsS RX4 31 yX4_layUsual wsX4_layUsual) := goodIn_app (goodIn_of _ (by decide +kernel)) ggX4_load_X4_layUsual
set_option maxRecDepth 20000 in
theorem ggX4_load_X4_takeWord : GoodIn wsX4_load wsX4_takeWord := goodIn_r _ [25, 4, 26, 27, 28, 13, 29, 5, 30, 31, 32, 33, 34, 35, 36, 37, 3, 38, 39, 40, 41, 42, 43, 44, 45, 46, 47, 48, 49, 50, 51, 52, 53, 54, 55, 56, 57, 58, 59, 60, 61, 62, 63, 64, 65, 66, 67, 68, 69, 70, 71, 72, 73, 74, 75, 76, 77, 78, 79, 80, 81, 82, 83, 84, 85, 86, 87, 11, 12, 14, 141, 142, 143, 144, 145, 146, 147, 148, 149, 150, 151, 152, 153, 154, 155] (by decide +kernel) (by decide +kernel)
set_option maxRecDepth 20000 in
theorem gX4_load_X4_takeWord : GoodIn wsX4_load (wsV RX4 106 RX4 yX4_takeWord wsX4_takeWord) := goodIn_app (goodIn_of _ (by decide +kernel)) ggX4_load_X4_takeWord
set_option maxRecDepth 20000 in
theorem ggX4_load_X4_report : GoodIn wsX4_load wsX4_report := goodIn_r _ [91, 5, 6, 141, 142, 143, 144, 145, 146, 147, 148, 149, 150, 151, 152, 153, 154, 155] (by decide +kernel) (by decide +kernel)
set_option maxRecDepth 20000 in
theorem gX4_load_X4_report : GoodIn wsX4_load (wsV RX4 78 RX4 yX4_report wsX4_report) := goodIn_app (goodIn_of _ (by decide +kernel)) ggX4_load_X4_report
set_option maxRecDepth 20000 in
theorem ggX4_load_X4_expect : GoodIn wsX4_load wsX4_expect := goodIn_r _ [95, 4, 26, 27, 28, 13, 29, 5, 30, 31, 32, 33, 34, 35, 36, 37, 3, 38, 88, 89, 90, 91, 6, 141, 142, 143, 144, 145, 146, 147, 148, 149, 150, 151, 152, 153, 154, 155] (by decide +kernel) (by decide +kernel)
set_option maxRecDepth 20000 in
theorem gX4_load_X4_expect : GoodIn wsX4_load (wsV RX4 100 RX4 yX4_expect wsX4_expect) := goodIn_app (goodIn_of _ (by decide +kernel)) ggX4_load_X4_expect
set_option maxRecDepth 20000 in
theorem ggX4_load_X4_isGood : GoodIn wsX4_load wsX4_isGood := goodIn_r _ [29, 5, 141, 142, 143, 144, 145, 146, 147, 148, 149, 150, 151, 152, 153, 154, 155] (by decide +kernel) (by decide +kernel)
set_option maxRecDepth 20000 in
theorem gX4_load_X4_isGood : GoodIn wsX4_load (wsV RX4 61 RX4 yX4_isGood wsX4_isGood) := goodIn_app (goodIn_of _ (by decide +kernel)) ggX4_load_X4_isGood
set_option maxRecDepth 20000 in
theorem ggX4_load_X4_next : GoodIn wsX4_load wsX4_next := goodIn_r _ [33, 4, 34, 35, 36, 13, 37, 3, 38, 141, 142, 143, 144, 145, 146, 147, 148, 149, 150, 151, 152, 153, 154, 155] (by decide +kernel) (by decide +kernel)
set_option maxRecDepth 20000 in
theorem gX4_load_X4_next : GoodIn wsX4_load (wsV RX4 65 RX4 yX4_next wsX4_next) := goodIn_app (goodIn_of _ (by decide +kernel)) ggX4_load_X4_next
set_option maxRecDepth 20000 in
theorem ggX4_load_X4_statement : GoodIn wsX4_load wsX4_statement := goodIn_r _ [99, 4, 8, 30, 31, 32, 13, 33, 34, 35, 36, 37, 3, 38, 22, 23, 24, 25, 26, 27, 28, 29, 5, 39, 40, 41, 42, 43, 44, 45, 46, 47, 48, 49, 50, 51, 52, 53, 54, 55, 56, 57, 58, 59, 60, 61, 62, 63, 64, 65, 66, 67, 68, 69, 70, 71, 72, 73, 74, 75, 76, 77, 78, 79, 80, 81, 82, 83, 84, 85, 86, 87, 11, 12, 14, 100, 101, 102, 103, 88, 89, 90, 91, 6, 104, 105, 106, 107, 108, 109, 110, 111, 112, 113, 114, 115, 116, 117, 118, 119, 120, 121, 122, 123, 124, 125, 126, 127, 92, 93, 94, 95, 128, 129, 130, 131, 7, 141, 142, 143, 144, 145, 146, 147, 148, 149, 150, 151, 152, 153, 154, 155] (by decide +kernel) (by decide +kernel)
set_option maxRecDepth 20000 in
theorem gX4_load_X4_statement : GoodIn wsX4_load (wsV RX4 145 RX4 yX4_statement wsX4_statement) := goodIn_app (goodIn_of _ (by decide +kernel)) ggX4_load_X4_statement
set_option maxRecDepth 20000 in
theorem ggX4_load_X4_remember : GoodIn wsX4_load wsX4_remember := goodIn_r _ [135, 136, 137, 10, 138, 139, 13, 140, 141, 142, 143, 144, 145, 146, 147, 148, 149, 150, 151, 152, 153, 154, 155] (by decide +kernel) (by decide +kernel)
set_option maxRecDepth 20000 in
theorem gX4_load_X4_remember : GoodIn wsX4_load (wsV RX4 148 RX4 yX4_remember wsX4_remember) := goodIn_app (goodIn_of _ (by decide +kernel)) ggX4_load_X4_remember
set_option maxRecDepth 20000 in
theorem ggX4_load_X4_copy : GoodIn wsX4_load wsX4_copy := goodIn_r _ [140] (by decide +kernel) (by decide +kernel)
set_option maxRecDepth 20000 in
theorem gX4_load_X4_copy : GoodIn wsX4_load (va_wsS RX4 151 yX4_copy wsX4_copy) := goodIn_app (goodIn_of _ (by decide +kernel)) ggX4_load_X4_copy
theorem dX4_load_0 : decode cX4_load 0 = .ok (.aload_n 0, 1) := by decide +kernel
theorem dX4_load_1 : decode cX4_load 1 = .ok (.iconst 0, 1) := by decide +kernel
theorem dX4_load_2 : decode cX4_load 2 = .ok (.putfield 35, 3) := by decide +kernel
theorem dX4_load_5 : decode cX4_load 5 = .ok (.aload_n 0, 1) := by decide +kernel
theorem dX4_load_6 : decode cX4_load 6 = .ok (.iload_n 1, 1) := by decide +kernel
theorem dX4_load_7 : decode cX4_load 7 = .ok (.iconst 0, 1) := by decide +kernel
theorem dX4_load_8 : decode cX4_load 8 = .ok (.aload_n 0, 1) := by decide +kernel
theorem dX4_load_9 : decode cX4_load 9 = .ok (.getfield 38, 3) := by decide +kernel
theorem dX4_load_12 : decode cX4_load 12 = .ok (.invokestatic 57, 3) := by decide +kernel
theorem dX4_load_15 : decode cX4_load 15 = .ok (.ifCond .ne 7, 3) := by decide +kernel
theorem dX4_load_18 : decode cX4_load 18 = .ok (.iconst 1, 1) := by decide +kernel
theorem dX4_load_19 : decode cX4_load 19 = .ok (.goto 4, 3) := by decide +kernel
theorem dX4_load_22 : decode cX4_load 22 = .ok (.iconst 0, 1) := by decide +kernel
theorem dX4_load_23 : decode cX4_load 23 = .ok (.iconst 1, 1) := by decide +kernel
theorem dX4_load_24 : decode cX4_load 24 = .ok (.invokevirtual 139, 3) := by decide +kernel
theorem dX4_load_27 : decode cX4_load 27 = .ok (.ifCond .eq 5, 3) := by decide +kernel
theorem dX4_load_30 : decode cX4_load 30 = .ok (.iconst 0, 1) := by decide +kernel
theorem dX4_load_31 : decode cX4_load 31 = .ok (.ireturn, 1) := by decide +kernel
theorem dX4_load_32 : decode cX4_load 32 = .ok (.aload_n 0, 1) := by decide +kernel
theorem dX4_load_33 : decode cX4_load 33 = .ok (.iconst 0, 1) := by decide +kernel
theorem dX4_load_34 : decode cX4_load 34 = .ok (.putfield 38, 3) := by decide +kernel
theorem dX4_load_37 : decode cX4_load 37 = .ok (.aload_n 0, 1) := by decide +kernel
theorem dX4_load_38 : decode cX4_load 38 = .ok (.iload_n 1, 1) := by decide +kernel
theorem dX4_load_39 : decode cX4_load 39 = .ok (.putfield 41, 3) := by decide +kernel
theorem dX4_load_42 : decode cX4_load 42 = .ok (.aload_n 0, 1) := by decide +kernel
theorem dX4_load_43 : decode cX4_load 43 = .ok (.iconst 0, 1) := by decide +kernel
theorem dX4_load_44 : decode cX4_load 44 = .ok (.putfield 44, 3) := by decide +kernel
theorem dX4_load_47 : decode cX4_load 47 = .ok (.aload_n 0, 1) := by decide +kernel
theorem dX4_load_48 : decode cX4_load 48 = .ok (.iconst 0, 1) := by decide +kernel
theorem dX4_load_49 : decode cX4_load 49 = .ok (.putfield 51, 3) := by decide +kernel
theorem dX4_load_52 : decode cX4_load 52 = .ok (.aload_n 0, 1) := by decide +kernel
theorem dX4_load_53 : decode cX4_load 53 = .ok (.iconst (-1), 1) := by decide +kernel
theorem dX4_load_54 : decode cX4_load 54 = .ok (.putfield 54, 3) := by decide +kernel
theorem dX4_load_57 : decode cX4_load 57 = .ok (.aload_n 0, 1) := by decide +kernel
theorem dX4_load_58 : decode cX4_load 58 = .ok (.iconst 0, 1) := by decide +kernel
theorem dX4_load_59 : decode cX4_load 59 = .ok (.putfield 94, 3) := by decide +kernel
theorem dX4_load_62 : decode cX4_load 62 = .ok (.aload_n 0, 1) := by decide +kernel
theorem dX4_load_63 : decode cX4_load 63 = .ok (.getfield 20, 3) := by decide +kernel
theorem dX4_load_66 : decode cX4_load 66 = .ok (.invokestatic 31, 3) := by decide +kernel
theorem dX4_load_69 : decode cX4_load 69 = .ok (.aload_n 0, 1) := by decide +kernel
theorem dX4_load_70 : decode cX4_load 70 = .ok (.ldc 143, 2) := by decide +kernel
theorem dX4_load_72 : decode cX4_load 72 = .ok (.invokevirtual 106, 3) := by decide +kernel
theorem dX4_load_75 : decode cX4_load 75 = .ok (.ifCond .ne 13, 3) := by decide +kernel
theorem dX4_load_78 : decode cX4_load 78 = .ok (.aload_n 0, 1) := by decide +kernel
theorem dX4_load_79 : decode cX4_load 79 = .ok (.bipush (-2), 2) := by decide +kernel
theorem dX4_load_81 : decode cX4_load 81 = .ok (.aload_n 0, 1) := by decide +kernel
theorem dX4_load_82 : decode cX4_load 82 = .ok (.getfield 44, 3) := by decide +kernel
theorem dX4_load_85 : decode cX4_load 85 = .ok (.invokevirtual 78, 3) := by decide +kernel
theorem dX4_load_88 : decode cX4_load 88 = .ok (.aload_n 0, 1) := by decide +kernel
theorem dX4_load_89 : decode cX4_load 89 = .ok (.bipush 59, 2) := by decide +kernel
theorem dX4_load_91 : decode cX4_load 91 = .ok (.invokevirtual 100, 3) := by decide +kernel
theorem dX4_load_94 : decode cX4_load 94 = .ok (.aload_n 0, 1) := by decide +kernel
theorem dX4_load_95 : decode cX4_load 95 = .ok (.invokevirtual 61, 3) := by decide +kernel
theorem dX4_load_98 : decode cX4_load 98 = .ok (.ifCond .eq 18, 3) := by decide +kernel
theorem dX4_load_101 : decode cX4_load 101 = .ok (.aload_n 0, 1) := by decide +kernel
theorem dX4_load_102 : decode cX4_load 102 = .ok (.invokevirtual 65, 3) := by decide +kernel
theorem dX4_load_105 : decode cX4_load 105 = .ok (.iconst (-1), 1) := by decide +kernel
theorem dX4_load_106 : decode cX4_load 106 = .ok (.if_icmp .eq 10, 3) := by decide +kernel
theorem dX4_load_109 : decode cX4_load 109 = .ok (.aload_n 0, 1) := by decide +kernel
theorem dX4_load_110 : decode cX4_load 110 = .ok (.invokevirtual 145, 3) := by decide +kernel
theorem dX4_load_113 : decode cX4_load 113 = .ok (.goto (-19), 3) := by decide +kernel
theorem dX4_load_116 : decode cX4_load 116 = .ok (.aload_n 0, 1) := by decide +kernel
theorem dX4_load_117 : decode cX4_load 117 = .ok (.aload_n 0, 1) := by decide +kernel
theorem dX4_load_118 : decode cX4_load 118 = .ok (.getfield 54, 3) := by decide +kernel
theorem dX4_load_121 : decode cX4_load 121 = .ok (.putfield 13, 3) := by decide +kernel
theorem dX4_load_124 : decode cX4_load 124 = .ok (.aload_n 0, 1) := by decide +kernel
theorem dX4_load_125 : decode cX4_load 125 = .ok (.invokevirtual 61, 3) := by decide +kernel
theorem dX4_load_128 : decode cX4_load 128 = .ok (.ifCond .ne 8, 3) := by decide +kernel
theorem dX4_load_131 : decode cX4_load 131 = .ok (.aload_n 0, 1) := by decide +kernel
theorem dX4_load_132 : decode cX4_load 132 = .ok (.getfield 51, 3) := by decide +kernel
theorem dX4_load_135 : decode cX4_load 135 = .ok (.ireturn, 1) := by decide +kernel
theorem dX4_load_136 : decode cX4_load 136 = .ok (.aload_n 0, 1) := by decide +kernel
theorem dX4_load_137 : decode cX4_load 137 = .ok (.invokevirtual 148, 3) := by decide +kernel
theorem dX4_load_140 : decode cX4_load 140 = .ok (.aload_n 0, 1) := by decide +kernel
theorem dX4_load_141 : decode cX4_load 141 = .ok (.getfield 20, 3) := by decide +kernel
theorem dX4_load_144 : decode cX4_load 144 = .ok (.aload_n 0, 1) := by decide +kernel
theorem dX4_load_145 : decode cX4_load 145 = .ok (.getfield 17, 3) := by decide +kernel
theorem dX4_load_148 : decode cX4_load 148 = .ok (.invokestatic 151, 3) := by decide +kernel
theorem dX4_load_151 : decode cX4_load 151 = .ok (.aload_n 0, 1) := by decide +kernel
theorem dX4_load_152 : decode cX4_load 152 = .ok (.getfield 17, 3) := by decide +kernel
theorem dX4_load_155 : decode cX4_load 155 = .ok (.iconst 2, 1) := by decide +kernel
theorem dX4_load_156 : decode cX4_load 156 = .ok (.iaload, 1) := by decide +kernel
theorem dX4_load_157 : decode cX4_load 157 = .ok (.ireturn, 1) := by decide +kernel
theorem dX4_errorOffset_0 : decode cX4_errorOffset 0 = .ok (.aload_n 0, 1) := by decide +kernel
theorem dX4_errorOffset_1 : decode cX4_errorOffset 1 = .ok (.iconst 0, 1) := by decide +kernel
theorem dX4_errorOffset_2 : decode cX4_errorOffset 2 = .ok (.putfield 35, 3) := by decide +kernel
theorem dX4_errorOffset_5 : decode cX4_errorOffset 5 = .ok (.aload_n 0, 1) := by decide +kernel
theorem dX4_errorOffset_6 : decode cX4_errorOffset 6 = .ok (.getfield 13, 3) := by decide +kernel
theorem dX4_errorOffset_9 : decode cX4_errorOffset 9 = .ok (.ireturn, 1) := by decide +kernel
theorem dX4_journeyAt_0 : decode cX4_journeyAt 0 = .ok (.bipush 19, 2) := by decide +kernel
theorem dX4_journeyAt_2 : decode cX4_journeyAt 2 = .ok (.bipush 9, 2) := by decide +kernel
theorem dX4_journeyAt_4 : decode cX4_journeyAt 4 = .ok (.iload_n 0, 1) := by decide +kernel
theorem dX4_journeyAt_5 : decode cX4_journeyAt 5 = .ok (.imul, 1) := by decide +kernel
theorem dX4_journeyAt_6 : decode cX4_journeyAt 6 = .ok (.iadd, 1) := by decide +kernel
theorem dX4_journeyAt_7 : decode cX4_journeyAt 7 = .ok (.ireturn, 1) := by decide +kernel
set_option maxRecDepth 20000 in
theorem ggX4_ofJourney_X4_journeyAt : GoodIn wsX4_ofJourney wsX4_journeyAt := goodIn_r _ [5] (by decide +kernel) (by decide +kernel)
set_option maxRecDepth 20000 in
theorem gX4_ofJourney_X4_journeyAt : GoodIn wsX4_ofJourney (va_wsS RX4 155 yX4_journeyAt wsX4_journeyAt) := goodIn_app (goodIn_of _ (by decide +kernel)) ggX4_ofJourney_X4_journeyAt
theorem dX4_ofJourney_0 : decode cX4_ofJourney 0 = .ok (.aload_n 0, 1) := by decide +kernel
theorem dX4_ofJourney_1 : decode cX4_ofJourney 1 = .ok (.getfield 17, 3) := by decide +kernel
theorem dX4_ofJourney_4 : decode cX4_ofJourney 4 = .ok (.iload_n 1, 1) := by decide +kernel
theorem dX4_ofJourney_5 : decode cX4_ofJourney 5 = .ok (.invokestatic 155, 3) := by decide +kernel
theorem dX4_ofJourney_8 : decode cX4_ofJourney 8 = .ok (.iload_n 2, 1) := by decide +kernel
theorem dX4_ofJourney_9 : decode cX4_ofJourney 9 = .ok (.iadd, 1) := by decide +kernel
theorem dX4_ofJourney_10 : decode cX4_ofJourney 10 = .ok (.iaload, 1) := by decide +kernel
theorem dX4_ofJourney_11 : decode cX4_ofJourney 11 = .ok (.ireturn, 1) := by decide +kernel
set_option maxRecDepth 20000 in
theorem ggX4_stepAt_X4_ofJourney : GoodIn wsX4_stepAt wsX4_ofJourney := goodIn_r _ [5, 6, 7, 8, 4, 9, 10, 11, 12, 13, 14, 15, 16, 17, 18, 19, 20, 21, 22, 23, 24] (by decide +kernel) (by decide +kernel)
set_option maxRecDepth 20000 in
theorem gX4_stepAt_X4_ofJourney : GoodIn wsX4_stepAt (wsV RX4 158 RX4 yX4_ofJourney wsX4_ofJourney) := goodIn_app (goodIn_of _ (by decide +kernel)) ggX4_stepAt_X4_ofJourney
theorem dX4_stepAt_0 : decode cX4_stepAt 0 = .ok (.bipush 91, 2) := by decide +kernel
theorem dX4_stepAt_2 : decode cX4_stepAt 2 = .ok (.bipush 9, 2) := by decide +kernel
theorem dX4_stepAt_4 : decode cX4_stepAt 4 = .ok (.aload_n 0, 1) := by decide +kernel
theorem dX4_stepAt_5 : decode cX4_stepAt 5 = .ok (.iload_n 1, 1) := by decide +kernel
theorem dX4_stepAt_6 : decode cX4_stepAt 6 = .ok (.bipush 6, 2) := by decide +kernel
theorem dX4_stepAt_8 : decode cX4_stepAt 8 = .ok (.invokevirtual 158, 3) := by decide +kernel
theorem dX4_stepAt_11 : decode cX4_stepAt 11 = .ok (.iload_n 2, 1) := by decide +kernel
theorem dX4_stepAt_12 : decode cX4_stepAt 12 = .ok (.iadd, 1) := by decide +kernel
theorem dX4_stepAt_13 : decode cX4_stepAt 13 = .ok (.imul, 1) := by decide +kernel
theorem dX4_stepAt_14 : decode cX4_stepAt 14 = .ok (.iadd, 1) := by decide +kernel
theorem dX4_stepAt_15 : decode cX4_stepAt 15 = .ok (.ireturn, 1) := by decide +kernel
set_option maxRecDepth 20000 in
theorem ggX4_stateOf_X4_stepAt : GoodIn wsX4_stateOf wsX4_stepAt := goodIn_r _ [6, 7, 8, 9, 5, 10, 1, 11, 12, 13, 14, 15, 16, 17, 18, 19, 20, 21, 22, 23, 24, 25, 26, 27, 28] (by decide +kernel) (by decide +kernel)
set_option maxRecDepth 20000 in
theorem gX4_stateOf_X4_stepAt : GoodIn wsX4_stateOf (wsV RX4 161 RX4 yX4_stepAt wsX4_stepAt) := goodIn_app (goodIn_of _ (by decide +kernel)) ggX4_stateOf_X4_stepAt
theorem dX4_stateOf_0 : decode cX4_stateOf 0 = .ok (.aload_n 0, 1) := by decide +kernel
theorem dX4_stateOf_1 : decode cX4_stateOf 1 = .ok (.getfield 17, 3) := by decide +kernel
theorem dX4_stateOf_4 : decode cX4_stateOf 4 = .ok (.aload_n 0, 1) := by decide +kernel
theorem dX4_stateOf_5 : decode cX4_stateOf 5 = .ok (.iload_n 1, 1) := by decide +kernel
theorem dX4_stateOf_6 : decode cX4_stateOf 6 = .ok (.iload_n 2, 1) := by decide +kernel
theorem dX4_stateOf_7 : decode cX4_stateOf 7 = .ok (.invokevirtual 161, 3) := by decide +kernel
theorem dX4_stateOf_10 : decode cX4_stateOf 10 = .ok (.iconst 4, 1) := by decide +kernel
theorem dX4_stateOf_11 : decode cX4_stateOf 11 = .ok (.iadd, 1) := by decide +kernel
theorem dX4_stateOf_12 : decode cX4_stateOf 12 = .ok (.iaload, 1) := by decide +kernel
theorem dX4_stateOf_13 : decode cX4_stateOf 13 = .ok (.ireturn, 1) := by decide +kernel
set_option maxRecDepth 20000 in
theorem ggX4_hasEnded_X4_ofJourney : GoodIn wsX4_hasEnded wsX4_ofJourney := goodIn_r _ [5, 6, 7, 8, 4, 9, 10, 11, 12, 13, 14, 15, 16, 17, 18, 19, 20, 21, 22, 23, 24] (by decide +kernel) (by decide +kernel)
set_option maxRecDepth 20000 in
theorem gX4_hasEnded_X4_ofJourney : GoodIn wsX4_hasEnded (wsV RX4 158 RX4 yX4_ofJourney wsX4_ofJourney) := goodIn_app (goodIn_of _ (by decide +kernel)) ggX4_hasEnded_X4_ofJourney
theorem dX4_hasEnded_0 : decode cX4_hasEnded 0 = .ok (.aload_n 0, 1) := by decide +kernel
theorem dX4_hasEnded_1 : decode cX4_hasEnded 1 = .ok (.iload_n 1, 1) := by decide +kernel
theorem dX4_hasEnded_2 : decode cX4_hasEnded 2 = .ok (.iconst 0, 1) := by decide +kernel
theorem dX4_hasEnded_3 : decode cX4_hasEnded 3 = .ok (.invokevirtual 158, 3) := by decide +kernel
theorem dX4_hasEnded_6 : decode cX4_hasEnded 6 = .ok (.iconst 3, 1) := by decide +kernel
theorem dX4_hasEnded_7 : decode cX4_hasEnded 7 = .ok (.if_icmp .eq 13, 3) := by decide +kernel
theorem dX4_hasEnded_10 : decode cX4_hasEnded 10 = .ok (.aload_n 0, 1) := by decide +kernel
theorem dX4_hasEnded_11 : decode cX4_hasEnded 11 = .ok (.iload_n 1, 1) := by decide +kernel
theorem dX4_hasEnded_12 : decode cX4_hasEnded 12 = .ok (.iconst 0, 1) := by decide +kernel
theorem dX4_hasEnded_13 : decode cX4_hasEnded 13 = .ok (.invokevirtual 158, 3) := by decide +kernel
theorem dX4_hasEnded_16 : decode cX4_hasEnded 16 = .ok (.iconst 4, 1) := by decide +kernel
theorem dX4_hasEnded_17 : decode cX4_hasEnded 17 = .ok (.if_icmp .ne 7, 3) := by decide +kernel
theorem dX4_hasEnded_20 : decode cX4_hasEnded 20 = .ok (.iconst 1, 1) := by decide +kernel
theorem dX4_hasEnded_21 : decode cX4_hasEnded 21 = .ok (.goto 4, 3) := by decide +kernel
theorem dX4_hasEnded_24 : decode cX4_hasEnded 24 = .ok (.iconst 0, 1) := by decide +kernel
theorem dX4_hasEnded_25 : decode cX4_hasEnded 25 = .ok (.ireturn, 1) := by decide +kernel
set_option maxRecDepth 20000 in
theorem ggX4_isTaken_X4_stateOf : GoodIn wsX4_isTaken wsX4_stateOf := goodIn_r _ [5, 6, 7, 8, 9, 4, 10, 11, 12, 13, 14, 15, 16, 17, 18, 19, 20, 21, 22, 23, 24, 25, 26, 27, 28, 29, 30, 31, 32] (by decide +kernel) (by decide +kernel)
set_option maxRecDepth 20000 in
theorem gX4_isTaken_X4_stateOf : GoodIn wsX4_isTaken (wsV RX4 164 RX4 yX4_stateOf wsX4_stateOf) := goodIn_app (goodIn_of _ (by decide +kernel)) ggX4_isTaken_X4_stateOf
theorem dX4_isTaken_0 : decode cX4_isTaken 0 = .ok (.aload_n 0, 1) := by decide +kernel
theorem dX4_isTaken_1 : decode cX4_isTaken 1 = .ok (.iload_n 1, 1) := by decide +kernel
theorem dX4_isTaken_2 : decode cX4_isTaken 2 = .ok (.iload_n 2, 1) := by decide +kernel
theorem dX4_isTaken_3 : decode cX4_isTaken 3 = .ok (.invokevirtual 164, 3) := by decide +kernel
theorem dX4_isTaken_6 : decode cX4_isTaken 6 = .ok (.iconst 2, 1) := by decide +kernel
theorem dX4_isTaken_7 : decode cX4_isTaken 7 = .ok (.if_icmp .eq 13, 3) := by decide +kernel
theorem dX4_isTaken_10 : decode cX4_isTaken 10 = .ok (.aload_n 0, 1) := by decide +kernel
theorem dX4_isTaken_11 : decode cX4_isTaken 11 = .ok (.iload_n 1, 1) := by decide +kernel
theorem dX4_isTaken_12 : decode cX4_isTaken 12 = .ok (.iload_n 2, 1) := by decide +kernel
theorem dX4_isTaken_13 : decode cX4_isTaken 13 = .ok (.invokevirtual 164, 3) := by decide +kernel
theorem dX4_isTaken_16 : decode cX4_isTaken 16 = .ok (.iconst 3, 1) := by decide +kernel
theorem dX4_isTaken_17 : decode cX4_isTaken 17 = .ok (.if_icmp .ne 7, 3) := by decide +kernel
theorem dX4_isTaken_20 : decode cX4_isTaken 20 = .ok (.iconst 1, 1) := by decide +kernel
theorem dX4_isTaken_21 : decode cX4_isTaken 21 = .ok (.goto 4, 3) := by decide +kernel
theorem dX4_isTaken_24 : decode cX4_isTaken 24 = .ok (.iconst 0, 1) := by decide +kernel
theorem dX4_isTaken_25 : decode cX4_isTaken 25 = .ok (.ireturn, 1) := by decide +kernel
set_option maxRecDepth 20000 in
theorem ggX4_holds_X4_hasEnded : GoodIn wsX4_holds wsX4_hasEnded := goodIn_r _ [6, 7, 8, 9, 5, 10, 1, 11, 12, 13, 26, 27, 28, 29, 30, 31, 32, 33, 34, 35, 36, 37, 38, 39, 40] (by decide +kernel) (by decide +kernel)
set_option maxRecDepth 20000 in
theorem gX4_holds_X4_hasEnded : GoodIn wsX4_holds (wsV RX4 167 RX4 yX4_hasEnded wsX4_hasEnded) := goodIn_app (goodIn_of _ (by decide +kernel)) ggX4_holds_X4_hasEnded
set_option maxRecDepth 20000 in
theorem ggX4_holds_X4_ofJourney : GoodIn wsX4_holds wsX4_ofJourney := goodIn_r _ [10, 1, 11, 12, 5, 13, 26, 27, 28, 29, 30, 31, 32, 33, 34, 35, 36, 37, 38, 39, 40] (by decide +kernel) (by decide +kernel)
set_option maxRecDepth 20000 in
theorem gX4_holds_X4_ofJourney : GoodIn wsX4_holds (wsV RX4 158 RX4 yX4_ofJourney wsX4_ofJourney) := goodIn_app (goodIn_of _ (by decide +kernel)) ggX4_holds_X4_ofJourney
set_option maxRecDepth 20000 in
theorem ggX4_holds_X4_stepAt : GoodIn wsX4_holds wsX4_stepAt := goodIn_r _ [17, 7, 8, 9, 5, 10, 1, 11, 12, 13, 26, 27, 28, 29, 30, 31, 32, 33, 34, 35, 36, 37, 38, 39, 40] (by decide +kernel) (by decide +kernel)
set_option maxRecDepth 20000 in
theorem gX4_holds_X4_stepAt : GoodIn wsX4_holds (wsV RX4 161 RX4 yX4_stepAt wsX4_stepAt) := goodIn_app (goodIn_of _ (by decide +kernel)) ggX4_holds_X4_stepAt
set_option maxRecDepth 20000 in
theorem ggX4_holds_X4_isTaken : GoodIn wsX4_holds wsX4_isTaken := goodIn_r _ [21, 22, 23, 24, 5, 25, 1, 14, 15, 16, 17, 7, 8, 9, 10, 11, 12, 13, 26, 27, 28, 29, 30, 31, 32, 33, 34, 35, 36, 37, 38, 39, 40] (by decide +kernel) (by decide +kernel)
set_option maxRecDepth 20000 in
theorem gX4_holds_X4_isTaken : GoodIn wsX4_holds (wsV RX4 170 RX4 yX4_isTaken wsX4_isTaken) := goodIn_app (goodIn_of _ (by decide +kernel)) ggX4_holds_X4_isTaken
theorem dX4_holds_0 : decode cX4_holds 0 = .ok (.aload_n 0, 1) := by decide +kernel
theorem dX4_holds_1 : decode cX4_holds 1 = .ok (.iload_n 1, 1) := by decide +kernel
theorem dX4_holds_2 : decode cX4_holds 2 = .ok (.invokevirtual 167, 3) := by decide +kernel
theorem dX4_holds_5 : decode cX4_holds 5 = .ok (.ifCond .eq 5, 3) := by decide +kernel
theorem dX4_holds_8 : decode cX4_holds 8 = .ok (.iconst 0, 1) := by decide +kernel
theorem dX4_holds_9 : decode cX4_holds 9 = .ok (.ireturn, 1) := by decide +kernel
theorem dX4_holds_10 : decode cX4_holds 10 = .ok (.iconst 0, 1) := by decide +kernel
theorem dX4_holds_11 : decode cX4_holds 11 = .ok (.istore_n 3, 1) := by decide +kernel
theorem dX4_holds_12 : decode cX4_holds 12 = .ok (.iload_n 3, 1) := by decide +kernel
theorem dX4_holds_13 : decode cX4_holds 13 = .ok (.aload_n 0, 1) := by decide +kernel
theorem dX4_holds_14 : decode cX4_holds 14 = .ok (.iload_n 1, 1) := by decide +kernel
theorem dX4_holds_15 : decode cX4_holds 15 = .ok (.iconst 3, 1) := by decide +kernel
theorem dX4_holds_16 : decode cX4_holds 16 = .ok (.invokevirtual 158, 3) := by decide +kernel
theorem dX4_holds_19 : decode cX4_holds 19 = .ok (.if_icmp .ge 37, 3) := by decide +kernel
theorem dX4_holds_22 : decode cX4_holds 22 = .ok (.aload_n 0, 1) := by decide +kernel
theorem dX4_holds_23 : decode cX4_holds 23 = .ok (.getfield 17, 3) := by decide +kernel
theorem dX4_holds_26 : decode cX4_holds 26 = .ok (.aload_n 0, 1) := by decide +kernel
theorem dX4_holds_27 : decode cX4_holds 27 = .ok (.iload_n 1, 1) := by decide +kernel
theorem dX4_holds_28 : decode cX4_holds 28 = .ok (.iload_n 3, 1) := by decide +kernel
theorem dX4_holds_29 : decode cX4_holds 29 = .ok (.invokevirtual 161, 3) := by decide +kernel
theorem dX4_holds_32 : decode cX4_holds 32 = .ok (.iconst 1, 1) := by decide +kernel
theorem dX4_holds_33 : decode cX4_holds 33 = .ok (.iadd, 1) := by decide +kernel
theorem dX4_holds_34 : decode cX4_holds 34 = .ok (.iaload, 1) := by decide +kernel
theorem dX4_holds_35 : decode cX4_holds 35 = .ok (.iload_n 2, 1) := by decide +kernel
theorem dX4_holds_36 : decode cX4_holds 36 = .ok (.if_icmp .ne 14, 3) := by decide +kernel
theorem dX4_holds_39 : decode cX4_holds 39 = .ok (.aload_n 0, 1) := by decide +kernel
theorem dX4_holds_40 : decode cX4_holds 40 = .ok (.iload_n 1, 1) := by decide +kernel
theorem dX4_holds_41 : decode cX4_holds 41 = .ok (.iload_n 3, 1) := by decide +kernel
theorem dX4_holds_42 : decode cX4_holds 42 = .ok (.invokevirtual 170, 3) := by decide +kernel
theorem dX4_holds_45 : decode cX4_holds 45 = .ok (.ifCond .eq 5, 3) := by decide +kernel
theorem dX4_holds_48 : decode cX4_holds 48 = .ok (.iconst 1, 1) := by decide +kernel
theorem dX4_holds_49 : decode cX4_holds 49 = .ok (.ireturn, 1) := by decide +kernel
theorem dX4_holds_50 : decode cX4_holds 50 = .ok (.iinc 3 1, 3) := by decide +kernel
theorem dX4_holds_53 : decode cX4_holds 53 = .ok (.goto (-41), 3) := by decide +kernel
theorem dX4_holds_56 : decode cX4_holds 56 = .ok (.iconst 0, 1) := by decide +kernel
theorem dX4_holds_57 : decode cX4_holds 57 = .ok (.ireturn, 1) := by decide +kernel
set_option maxRecDepth 20000 in
theorem ggX4_holders_X4_holds : GoodIn wsX4_holders wsX4_holds := goodIn_r _ [6, 1, 7, 8, 9, 5, 10, 11, 12, 13, 14, 15, 16, 17, 18, 19, 20, 21, 22, 23, 24, 25, 26, 27, 28, 29, 30, 31, 32, 33, 34, 35, 36, 37, 38, 39, 40, 41, 42, 43, 44] (by decide +kernel) (by decide +kernel)
set_option maxRecDepth 20000 in
theorem gX4_holders_X4_holds : GoodIn wsX4_holders (wsV RX4 174 RX4 yX4_holds wsX4_holds) := goodIn_app (goodIn_of _ (by decide +kernel)) ggX4_holders_X4_holds
theorem dX4_holders_0 : decode cX4_holders 0 = .ok (.iconst 0, 1) := by decide +kernel
theorem dX4_holders_1 : decode cX4_holders 1 = .ok (.istore_n 2, 1) := by decide +kernel
theorem dX4_holders_2 : decode cX4_holders 2 = .ok (.iconst 0, 1) := by decide +kernel
theorem dX4_holders_3 : decode cX4_holders 3 = .ok (.istore_n 3, 1) := by decide +kernel
theorem dX4_holders_4 : decode cX4_holders 4 = .ok (.iload_n 3, 1) := by decide +kernel
theorem dX4_holders_5 : decode cX4_holders 5 = .ok (.aload_n 0, 1) := by decide +kernel
theorem dX4_holders_6 : decode cX4_holders 6 = .ok (.getfield 17, 3) := by decide +kernel
theorem dX4_holders_9 : decode cX4_holders 9 = .ok (.iconst 2, 1) := by decide +kernel
theorem dX4_holders_10 : decode cX4_holders 10 = .ok (.iaload, 1) := by decide +kernel
theorem dX4_holders_11 : decode cX4_holders 11 = .ok (.if_icmp .ge 26, 3) := by decide +kernel
theorem dX4_holders_14 : decode cX4_holders 14 = .ok (.iload_n 2, 1) := by decide +kernel
theorem dX4_holders_15 : decode cX4_holders 15 = .ok (.aload_n 0, 1) := by decide +kernel
theorem dX4_holders_16 : decode cX4_holders 16 = .ok (.iload_n 3, 1) := by decide +kernel
theorem dX4_holders_17 : decode cX4_holders 17 = .ok (.iload_n 1, 1) := by decide +kernel
theorem dX4_holders_18 : decode cX4_holders 18 = .ok (.invokevirtual 174, 3) := by decide +kernel
theorem dX4_holders_21 : decode cX4_holders 21 = .ok (.ifCond .eq 7, 3) := by decide +kernel
theorem dX4_holders_24 : decode cX4_holders 24 = .ok (.iconst 1, 1) := by decide +kernel
theorem dX4_holders_25 : decode cX4_holders 25 = .ok (.goto 4, 3) := by decide +kernel
theorem dX4_holders_28 : decode cX4_holders 28 = .ok (.iconst 0, 1) := by decide +kernel
theorem dX4_holders_29 : decode cX4_holders 29 = .ok (.iadd, 1) := by decide +kernel
theorem dX4_holders_30 : decode cX4_holders 30 = .ok (.istore_n 2, 1) := by decide +kernel
theorem dX4_holders_31 : decode cX4_holders 31 = .ok (.iinc 3 1, 3) := by decide +kernel
theorem dX4_holders_34 : decode cX4_holders 34 = .ok (.goto (-30), 3) := by decide +kernel
theorem dX4_holders_37 : decode cX4_holders 37 = .ok (.iload_n 2, 1) := by decide +kernel
theorem dX4_holders_38 : decode cX4_holders 38 = .ok (.ireturn, 1) := by decide +kernel
theorem dX4_levelAt_0 : decode cX4_levelAt 0 = .ok (.bipush 7, 2) := by decide +kernel
theorem dX4_levelAt_2 : decode cX4_levelAt 2 = .ok (.iconst 2, 1) := by decide +kernel
theorem dX4_levelAt_3 : decode cX4_levelAt 3 = .ok (.aload_n 0, 1) := by decide +kernel
theorem dX4_levelAt_4 : decode cX4_levelAt 4 = .ok (.getfield 17, 3) := by decide +kernel
theorem dX4_levelAt_7 : decode cX4_levelAt 7 = .ok (.iload_n 1, 1) := by decide +kernel
theorem dX4_levelAt_8 : decode cX4_levelAt 8 = .ok (.iconst 1, 1) := by decide +kernel
theorem dX4_levelAt_9 : decode cX4_levelAt 9 = .ok (.iadd, 1) := by decide +kernel
theorem dX4_levelAt_10 : decode cX4_levelAt 10 = .ok (.iaload, 1) := by decide +kernel
theorem dX4_levelAt_11 : decode cX4_levelAt 11 = .ok (.imul, 1) := by decide +kernel
theorem dX4_levelAt_12 : decode cX4_levelAt 12 = .ok (.iadd, 1) := by decide +kernel
theorem dX4_levelAt_13 : decode cX4_levelAt 13 = .ok (.iconst 0, 1) := by decide +kernel
theorem dX4_levelAt_14 : decode cX4_levelAt 14 = .ok (.iadd, 1) := by decide +kernel
theorem dX4_levelAt_15 : decode cX4_levelAt 15 = .ok (.ireturn, 1) := by decide +kernel
set_option maxRecDepth 20000 in
theorem ggX4_lastDone_X4_ofJourney : GoodIn wsX4_lastDone wsX4_ofJourney := goodIn_r _ [5, 6, 7, 8, 4, 9, 18, 19, 20, 21, 22, 23, 24, 25, 26, 27, 28, 29, 30, 31, 32] (by decide +kernel) (by decide +kernel)
set_option maxRecDepth 20000 in
theorem gX4_lastDone_X4_ofJourney : GoodIn wsX4_lastDone (wsV RX4 158 RX4 yX4_ofJourney wsX4_ofJourney) := goodIn_app (goodIn_of _ (by decide +kernel)) ggX4_lastDone_X4_ofJourney
set_option maxRecDepth 20000 in
theorem ggX4_lastDone_X4_stateOf : GoodIn wsX4_lastDone wsX4_stateOf := goodIn_r _ [13, 6, 14, 15, 16, 4, 17, 1, 2, 3, 5, 7, 8, 9, 18, 19, 20, 21, 22, 23, 24, 25, 26, 27, 28, 29, 30, 31, 32] (by decide +kernel) (by decide +kernel)
set_option maxRecDepth 20000 in
theorem gX4_lastDone_X4_stateOf : GoodIn wsX4_lastDone (wsV RX4 164 RX4 yX4_stateOf wsX4_stateOf) := goodIn_app (goodIn_of _ (by decide +kernel)) ggX4_lastDone_X4_stateOf
theorem dX4_lastDone_0 : decode cX4_lastDone 0 = .ok (.aload_n 0, 1) := by decide +kernel
theorem dX4_lastDone_1 : decode cX4_lastDone 1 = .ok (.iload_n 1, 1) := by decide +kernel
theorem dX4_lastDone_2 : decode cX4_lastDone 2 = .ok (.iconst 3, 1) := by decide +kernel
theorem dX4_lastDone_3 : decode cX4_lastDone 3 = .ok (.invokevirtual 158, 3) := by decide +kernel
theorem dX4_lastDone_6 : decode cX4_lastDone 6 = .ok (.iconst 1, 1) := by decide +kernel
theorem dX4_lastDone_7 : decode cX4_lastDone 7 = .ok (.isub, 1) := by decide +kernel
theorem dX4_lastDone_8 : decode cX4_lastDone 8 = .ok (.istore_n 2, 1) := by decide +kernel
theorem dX4_lastDone_9 : decode cX4_lastDone 9 = .ok (.iload_n 2, 1) := by decide +kernel
theorem dX4_lastDone_10 : decode cX4_lastDone 10 = .ok (.ifCond .lt 19, 3) := by decide +kernel
theorem dX4_lastDone_13 : decode cX4_lastDone 13 = .ok (.aload_n 0, 1) := by decide +kernel
theorem dX4_lastDone_14 : decode cX4_lastDone 14 = .ok (.iload_n 1, 1) := by decide +kernel
theorem dX4_lastDone_15 : decode cX4_lastDone 15 = .ok (.iload_n 2, 1) := by decide +kernel
theorem dX4_lastDone_16 : decode cX4_lastDone 16 = .ok (.invokevirtual 164, 3) := by decide +kernel
theorem dX4_lastDone_19 : decode cX4_lastDone 19 = .ok (.iconst 3, 1) := by decide +kernel
theorem dX4_lastDone_20 : decode cX4_lastDone 20 = .ok (.if_icmp .eq 9, 3) := by decide +kernel
theorem dX4_lastDone_23 : decode cX4_lastDone 23 = .ok (.iinc 2 (-1), 3) := by decide +kernel
theorem dX4_lastDone_26 : decode cX4_lastDone 26 = .ok (.goto (-17), 3) := by decide +kernel
theorem dX4_lastDone_29 : decode cX4_lastDone 29 = .ok (.iload_n 2, 1) := by decide +kernel
theorem dX4_lastDone_30 : decode cX4_lastDone 30 = .ok (.ireturn, 1) := by decide +kernel
set_option maxRecDepth 20000 in
theorem ggX4_isSettled_X4_stateOf : GoodIn wsX4_isSettled wsX4_stateOf := goodIn_r _ [5, 6, 7, 8, 9, 4, 10, 11, 12, 13, 14, 15, 16, 17, 18, 19, 20, 21, 22, 23, 24, 25, 26, 27, 28, 29, 30, 31, 32] (by decide +kernel) (by decide +kernel)
set_option maxRecDepth 20000 in
theorem gX4_isSettled_X4_stateOf : GoodIn wsX4_isSettled (wsV RX4 164 RX4 yX4_stateOf wsX4_stateOf) := goodIn_app (goodIn_of _ (by decide +kernel)) ggX4_isSettled_X4_stateOf
theorem dX4_isSettled_0 : decode cX4_isSettled 0 = .ok (.aload_n 0, 1) := by decide +kernel
theorem dX4_isSettled_1 : decode cX4_isSettled 1 = .ok (.iload_n 1, 1) := by decide +kernel
theorem dX4_isSettled_2 : decode cX4_isSettled 2 = .ok (.iload_n 2, 1) := by decide +kernel
theorem dX4_isSettled_3 : decode cX4_isSettled 3 = .ok (.invokevirtual 164, 3) := by decide +kernel
theorem dX4_isSettled_6 : decode cX4_isSettled 6 = .ok (.iconst 3, 1) := by decide +kernel
theorem dX4_isSettled_7 : decode cX4_isSettled 7 = .ok (.if_icmp .eq 14, 3) := by decide +kernel
theorem dX4_isSettled_10 : decode cX4_isSettled 10 = .ok (.aload_n 0, 1) := by decide +kernel
theorem dX4_isSettled_11 : decode cX4_isSettled 11 = .ok (.iload_n 1, 1) := by decide +kernel
theorem dX4_isSettled_12 : decode cX4_isSettled 12 = .ok (.iload_n 2, 1) := by decide +kernel
theorem dX4_isSettled_13 : decode cX4_isSettled 13 = .ok (.invokevirtual 164, 3) := by decide +kernel
theorem dX4_isSettled_16 : decode cX4_isSettled 16 = .ok (.bipush 6, 2) := by decide +kernel
theorem dX4_isSettled_18 : decode cX4_isSettled 18 = .ok (.if_icmp .ne 7, 3) := by decide +kernel
theorem dX4_isSettled_21 : decode cX4_isSettled 21 = .ok (.iconst 1, 1) := by decide +kernel
theorem dX4_isSettled_22 : decode cX4_isSettled 22 = .ok (.goto 4, 3) := by decide +kernel
theorem dX4_isSettled_25 : decode cX4_isSettled 25 = .ok (.iconst 0, 1) := by decide +kernel
theorem dX4_isSettled_26 : decode cX4_isSettled 26 = .ok (.ireturn, 1) := by decide +kernel
set_option maxRecDepth 20000 in
theorem ggX4_rest_X4_journeyAt : GoodIn wsX4_rest wsX4_journeyAt := goodIn_r _ [5] (by decide +kernel) (by decide +kernel)
set_option maxRecDepth 20000 in
theorem gX4_rest_X4_journeyAt : GoodIn wsX4_rest (va_wsS RX4 155 yX4_journeyAt wsX4_journeyAt) := goodIn_app (goodIn_of _ (by decide +kernel)) ggX4_rest_X4_journeyAt
theorem dX4_rest_0 : decode cX4_rest 0 = .ok (.aload_n 0, 1) := by decide +kernel
theorem dX4_rest_1 : decode cX4_rest 1 = .ok (.getfield 17, 3) := by decide +kernel
theorem dX4_rest_4 : decode cX4_rest 4 = .ok (.iload_n 1, 1) := by decide +kernel
theorem dX4_rest_5 : decode cX4_rest 5 = .ok (.invokestatic 155, 3) := by decide +kernel
theorem dX4_rest_8 : decode cX4_rest 8 = .ok (.iconst 0, 1) := by decide +kernel
theorem dX4_rest_9 : decode cX4_rest 9 = .ok (.iadd, 1) := by decide +kernel
theorem dX4_rest_10 : decode cX4_rest 10 = .ok (.iload_n 2, 1) := by decide +kernel
theorem dX4_rest_11 : decode cX4_rest 11 = .ok (.iastore, 1) := by decide +kernel
theorem dX4_rest_12 : decode cX4_rest 12 = .ok (.aload_n 0, 1) := by decide +kernel
theorem dX4_rest_13 : decode cX4_rest 13 = .ok (.getfield 17, 3) := by decide +kernel
theorem dX4_rest_16 : decode cX4_rest 16 = .ok (.iload_n 1, 1) := by decide +kernel
theorem dX4_rest_17 : decode cX4_rest 17 = .ok (.invokestatic 155, 3) := by decide +kernel
theorem dX4_rest_20 : decode cX4_rest 20 = .ok (.iconst 5, 1) := by decide +kernel
theorem dX4_rest_21 : decode cX4_rest 21 = .ok (.iadd, 1) := by decide +kernel
theorem dX4_rest_22 : decode cX4_rest 22 = .ok (.aload_n 0, 1) := by decide +kernel
theorem dX4_rest_23 : decode cX4_rest 23 = .ok (.getfield 17, 3) := by decide +kernel
theorem dX4_rest_26 : decode cX4_rest 26 = .ok (.iconst 0, 1) := by decide +kernel
theorem dX4_rest_27 : decode cX4_rest 27 = .ok (.iaload, 1) := by decide +kernel
theorem dX4_rest_28 : decode cX4_rest 28 = .ok (.iastore, 1) := by decide +kernel
theorem dX4_rest_29 : decode cX4_rest 29 = .ok (.aload_n 0, 1) := by decide +kernel
theorem dX4_rest_30 : decode cX4_rest 30 = .ok (.getfield 17, 3) := by decide +kernel
theorem dX4_rest_33 : decode cX4_rest 33 = .ok (.iload_n 1, 1) := by decide +kernel
theorem dX4_rest_34 : decode cX4_rest 34 = .ok (.invokestatic 155, 3) := by decide +kernel
theorem dX4_rest_37 : decode cX4_rest 37 = .ok (.iconst 4, 1) := by decide +kernel
theorem dX4_rest_38 : decode cX4_rest 38 = .ok (.iadd, 1) := by decide +kernel
theorem dX4_rest_39 : decode cX4_rest 39 = .ok (.iconst (-1), 1) := by decide +kernel
theorem dX4_rest_40 : decode cX4_rest 40 = .ok (.iastore, 1) := by decide +kernel
theorem dX4_rest_41 : decode cX4_rest 41 = .ok (.return_, 1) := by decide +kernel
theorem dX4_beReady_0 : decode cX4_beReady 0 = .ok (.aload_n 0, 1) := by decide +kernel
theorem dX4_beReady_1 : decode cX4_beReady 1 = .ok (.getfield 17, 3) := by decide +kernel
theorem dX4_beReady_4 : decode cX4_beReady 4 = .ok (.iload_n 1, 1) := by decide +kernel
theorem dX4_beReady_5 : decode cX4_beReady 5 = .ok (.iconst 4, 1) := by decide +kernel
theorem dX4_beReady_6 : decode cX4_beReady 6 = .ok (.iadd, 1) := by decide +kernel
theorem dX4_beReady_7 : decode cX4_beReady 7 = .ok (.iconst 1, 1) := by decide +kernel
theorem dX4_beReady_8 : decode cX4_beReady 8 = .ok (.iastore, 1) := by decide +kernel
theorem dX4_beReady_9 : decode cX4_beReady 9 = .ok (.aload_n 0, 1) := by decide +kernel
theorem dX4_beReady_10 : decode cX4_beReady 10 = .ok (.getfield 17, 3) := by decide +kernel
theorem dX4_beReady_13 : decode cX4_beReady 13 = .ok (.iload_n 1, 1) := by decide +kernel
theorem dX4_beReady_14 : decode cX4_beReady 14 = .ok (.bipush 8, 2) := by decide +kernel
theorem dX4_beReady_16 : decode cX4_beReady 16 = .ok (.iadd, 1) := by decide +kernel
theorem dX4_beReady_17 : decode cX4_beReady 17 = .ok (.iconst 0, 1) := by decide +kernel
theorem dX4_beReady_18 : decode cX4_beReady 18 = .ok (.iastore, 1) := by decide +kernel
theorem dX4_beReady_19 : decode cX4_beReady 19 = .ok (.return_, 1) := by decide +kernel
set_option maxRecDepth 20000 in
theorem ggX4_present_X4_journeyAt : GoodIn wsX4_present wsX4_journeyAt := goodIn_r _ [5] (by decide +kernel) (by decide +kernel)
set_option maxRecDepth 20000 in
theorem gX4_present_X4_journeyAt : GoodIn wsX4_present (va_wsS RX4 155 yX4_journeyAt wsX4_journeyAt) := goodIn_app (goodIn_of _ (by decide +kernel)) ggX4_present_X4_journeyAt
set_option maxRecDepth 20000 in
theorem ggX4_present_X4_ofJourney : GoodIn wsX4_present wsX4_ofJourney := goodIn_r _ [9, 1, 2, 3, 4, 5, 18, 19, 20, 21, 22, 23, 24, 25, 26, 27, 28, 29, 30, 31, 32] (by decide +kernel) (by decide +kernel)
set_option maxRecDepth 20000 in
theorem gX4_present_X4_ofJourney : GoodIn wsX4_present (wsV RX4 158 RX4 yX4_ofJourney wsX4_ofJourney) := goodIn_app (goodIn_of _ (by decide +kernel)) ggX4_present_X4_ofJourney
set_option maxRecDepth 20000 in
theorem ggX4_present_X4_stepAt : GoodIn wsX4_present wsX4_stepAt := goodIn_r _ [13, 6, 7, 8, 4, 9, 1, 2, 3, 5, 18, 19, 20, 21, 22, 23, 24, 25, 26, 27, 28, 29, 30, 31, 32] (by decide +kernel) (by decide +kernel)
set_option maxRecDepth 20000 in
theorem gX4_present_X4_stepAt : GoodIn wsX4_present (wsV RX4 161 RX4 yX4_stepAt wsX4_stepAt) := goodIn_app (goodIn_of _ (by decide +kernel)) ggX4_present_X4_stepAt
set_option maxRecDepth 20000 in
theorem ggX4_present_X4_beReady : GoodIn wsX4_present wsX4_beReady := goodIn_r _ [17, 1, 18, 19, 20, 21, 22, 23, 24, 25, 26, 27, 28, 29, 30, 31, 32] (by decide +kernel) (by decide +kernel)
set_option maxRecDepth 20000 in
theorem gX4_present_X4_beReady : GoodIn wsX4_present (wsV RX4 177 RX4 yX4_beReady wsX4_beReady) := goodIn_app (goodIn_of _ (by decide +kernel)) ggX4_present_X4_beReady
theorem dX4_present_0 : decode cX4_present 0 = .ok (.aload_n 0, 1) := by decide +kernel
theorem dX4_present_1 : decode cX4_present 1 = .ok (.getfield 17, 3) := by decide +kernel
theorem dX4_present_4 : decode cX4_present 4 = .ok (.iload_n 1, 1) := by decide +kernel
theorem dX4_present_5 : decode cX4_present 5 = .ok (.invokestatic 155, 3) := by decide +kernel
theorem dX4_present_8 : decode cX4_present 8 = .ok (.iconst 4, 1) := by decide +kernel
theorem dX4_present_9 : decode cX4_present 9 = .ok (.iadd, 1) := by decide +kernel
theorem dX4_present_10 : decode cX4_present 10 = .ok (.iload_n 2, 1) := by decide +kernel
theorem dX4_present_11 : decode cX4_present 11 = .ok (.iastore, 1) := by decide +kernel
theorem dX4_present_12 : decode cX4_present 12 = .ok (.iconst 0, 1) := by decide +kernel
theorem dX4_present_13 : decode cX4_present 13 = .ok (.istore_n 3, 1) := by decide +kernel
theorem dX4_present_14 : decode cX4_present 14 = .ok (.iload_n 3, 1) := by decide +kernel
theorem dX4_present_15 : decode cX4_present 15 = .ok (.aload_n 0, 1) := by decide +kernel
theorem dX4_present_16 : decode cX4_present 16 = .ok (.iload_n 1, 1) := by decide +kernel
theorem dX4_present_17 : decode cX4_present 17 = .ok (.iconst 3, 1) := by decide +kernel
theorem dX4_present_18 : decode cX4_present 18 = .ok (.invokevirtual 158, 3) := by decide +kernel
theorem dX4_present_21 : decode cX4_present 21 = .ok (.if_icmp .ge 48, 3) := by decide +kernel
theorem dX4_present_24 : decode cX4_present 24 = .ok (.aload_n 0, 1) := by decide +kernel
theorem dX4_present_25 : decode cX4_present 25 = .ok (.iload_n 1, 1) := by decide +kernel
theorem dX4_present_26 : decode cX4_present 26 = .ok (.iload_n 3, 1) := by decide +kernel
theorem dX4_present_27 : decode cX4_present 27 = .ok (.invokevirtual 161, 3) := by decide +kernel
theorem dX4_present_30 : decode cX4_present 30 = .ok (.istore 4, 2) := by decide +kernel
theorem dX4_present_32 : decode cX4_present 32 = .ok (.aload_n 0, 1) := by decide +kernel
theorem dX4_present_33 : decode cX4_present 33 = .ok (.getfield 17, 3) := by decide +kernel
theorem dX4_present_36 : decode cX4_present 36 = .ok (.iload 4, 2) := by decide +kernel
theorem dX4_present_38 : decode cX4_present 38 = .ok (.iconst 0, 1) := by decide +kernel
theorem dX4_present_39 : decode cX4_present 39 = .ok (.iadd, 1) := by decide +kernel
theorem dX4_present_40 : decode cX4_present 40 = .ok (.iaload, 1) := by decide +kernel
theorem dX4_present_41 : decode cX4_present 41 = .ok (.iload_n 2, 1) := by decide +kernel
theorem dX4_present_42 : decode cX4_present 42 = .ok (.if_icmp .ne 21, 3) := by decide +kernel
theorem dX4_present_45 : decode cX4_present 45 = .ok (.aload_n 0, 1) := by decide +kernel
theorem dX4_present_46 : decode cX4_present 46 = .ok (.getfield 17, 3) := by decide +kernel
theorem dX4_present_49 : decode cX4_present 49 = .ok (.iload 4, 2) := by decide +kernel
theorem dX4_present_51 : decode cX4_present 51 = .ok (.iconst 4, 1) := by decide +kernel
theorem dX4_present_52 : decode cX4_present 52 = .ok (.iadd, 1) := by decide +kernel
theorem dX4_present_53 : decode cX4_present 53 = .ok (.iaload, 1) := by decide +kernel
theorem dX4_present_54 : decode cX4_present 54 = .ok (.ifCond .ne 9, 3) := by decide +kernel
theorem dX4_present_57 : decode cX4_present 57 = .ok (.aload_n 0, 1) := by decide +kernel
theorem dX4_present_58 : decode cX4_present 58 = .ok (.iload 4, 2) := by decide +kernel
theorem dX4_present_60 : decode cX4_present 60 = .ok (.invokevirtual 177, 3) := by decide +kernel
theorem dX4_present_63 : decode cX4_present 63 = .ok (.iinc 3 1, 3) := by decide +kernel
theorem dX4_present_66 : decode cX4_present 66 = .ok (.goto (-52), 3) := by decide +kernel
theorem dX4_present_69 : decode cX4_present 69 = .ok (.return_, 1) := by decide +kernel
set_option maxRecDepth 20000 in
theorem ggX4_go_X4_stepAt : GoodIn wsX4_go wsX4_stepAt := goodIn_r _ [6, 7, 8, 9, 5, 10, 1, 11, 12, 13, 38, 39, 40, 41, 42, 43, 44, 45, 46, 47, 48, 49, 50, 51, 52] (by decide +kernel) (by decide +kernel)
set_option maxRecDepth 20000 in
theorem gX4_go_X4_stepAt : GoodIn wsX4_go (wsV RX4 161 RX4 yX4_stepAt wsX4_stepAt) := goodIn_app (goodIn_of _ (by decide +kernel)) ggX4_go_X4_stepAt
set_option maxRecDepth 20000 in
theorem ggX4_go_X4_holds : GoodIn wsX4_go wsX4_holds := goodIn_r _ [17, 1, 18, 19, 20, 5, 21, 7, 8, 9, 10, 11, 12, 13, 2, 3, 4, 6, 22, 23, 24, 25, 26, 27, 28, 29, 38, 39, 40, 41, 42, 43, 44, 45, 46, 47, 48, 49, 50, 51, 52] (by decide +kernel) (by decide +kernel)
set_option maxRecDepth 20000 in
theorem gX4_go_X4_holds : GoodIn wsX4_go (wsV RX4 174 RX4 yX4_holds wsX4_holds) := goodIn_app (goodIn_of _ (by decide +kernel)) ggX4_go_X4_holds
set_option maxRecDepth 20000 in
theorem ggX4_go_X4_holders : GoodIn wsX4_go wsX4_holders := goodIn_r _ [33, 1, 14, 15, 16, 5, 17, 18, 19, 20, 21, 7, 8, 9, 10, 11, 12, 13, 2, 3, 4, 6, 22, 23, 24, 25, 26, 27, 28, 29, 38, 39, 40, 41, 42, 43, 44, 45, 46, 47, 48, 49, 50, 51, 52] (by decide +kernel) (by decide +kernel)
set_option maxRecDepth 20000 in
theorem gX4_go_X4_holders : GoodIn wsX4_go (wsV RX4 180 RX4 yX4_holders wsX4_holders) := goodIn_app (goodIn_of _ (by decide +kernel)) ggX4_go_X4_holders
set_option maxRecDepth 20000 in
theorem ggX4_go_X4_levelAt : GoodIn wsX4_go wsX4_levelAt := goodIn_r _ [37, 1, 38, 39, 40, 41, 42, 43, 44, 45, 46, 47, 48, 49, 50, 51, 52] (by decide +kernel) (by decide +kernel)
set_option maxRecDepth 20000 in
theorem gX4_go_X4_levelAt : GoodIn wsX4_go (wsV RX4 183 RX4 yX4_levelAt wsX4_levelAt) := goodIn_app (goodIn_of _ (by decide +kernel)) ggX4_go_X4_levelAt
theorem dX4_go_0 : decode cX4_go 0 = .ok (.aload_n 0, 1) := by decide +kernel
theorem dX4_go_1 : decode cX4_go 1 = .ok (.iload_n 1, 1) := by decide +kernel
theorem dX4_go_2 : decode cX4_go 2 = .ok (.iload_n 2, 1) := by decide +kernel
theorem dX4_go_3 : decode cX4_go 3 = .ok (.invokevirtual 161, 3) := by decide +kernel
theorem dX4_go_6 : decode cX4_go 6 = .ok (.istore_n 3, 1) := by decide +kernel
theorem dX4_go_7 : decode cX4_go 7 = .ok (.aload_n 0, 1) := by decide +kernel
theorem dX4_go_8 : decode cX4_go 8 = .ok (.getfield 17, 3) := by decide +kernel
theorem dX4_go_11 : decode cX4_go 11 = .ok (.iload_n 3, 1) := by decide +kernel
theorem dX4_go_12 : decode cX4_go 12 = .ok (.iconst 1, 1) := by decide +kernel
theorem dX4_go_13 : decode cX4_go 13 = .ok (.iadd, 1) := by decide +kernel
theorem dX4_go_14 : decode cX4_go 14 = .ok (.iaload, 1) := by decide +kernel
theorem dX4_go_15 : decode cX4_go 15 = .ok (.istore 4, 2) := by decide +kernel
theorem dX4_go_17 : decode cX4_go 17 = .ok (.aload_n 0, 1) := by decide +kernel
theorem dX4_go_18 : decode cX4_go 18 = .ok (.getfield 17, 3) := by decide +kernel
theorem dX4_go_21 : decode cX4_go 21 = .ok (.iload_n 3, 1) := by decide +kernel
theorem dX4_go_22 : decode cX4_go 22 = .ok (.iconst 4, 1) := by decide +kernel
theorem dX4_go_23 : decode cX4_go 23 = .ok (.iadd, 1) := by decide +kernel
theorem dX4_go_24 : decode cX4_go 24 = .ok (.iaload, 1) := by decide +kernel
theorem dX4_go_25 : decode cX4_go 25 = .ok (.iconst 2, 1) := by decide +kernel
theorem dX4_go_26 : decode cX4_go 26 = .ok (.if_icmp .ne 42, 3) := by decide +kernel
theorem dX4_go_29 : decode cX4_go 29 = .ok (.aload_n 0, 1) := by decide +kernel
theorem dX4_go_30 : decode cX4_go 30 = .ok (.getfield 17, 3) := by decide +kernel
theorem dX4_go_33 : decode cX4_go 33 = .ok (.iconst 0, 1) := by decide +kernel
theorem dX4_go_34 : decode cX4_go 34 = .ok (.iaload, 1) := by decide +kernel
theorem dX4_go_35 : decode cX4_go 35 = .ok (.aload_n 0, 1) := by decide +kernel
theorem dX4_go_36 : decode cX4_go 36 = .ok (.getfield 17, 3) := by decide +kernel
theorem dX4_go_39 : decode cX4_go 39 = .ok (.iload_n 3, 1) := by decide +kernel
theorem dX4_go_40 : decode cX4_go 40 = .ok (.bipush 8, 2) := by decide +kernel
theorem dX4_go_42 : decode cX4_go 42 = .ok (.iadd, 1) := by decide +kernel
theorem dX4_go_43 : decode cX4_go 43 = .ok (.iaload, 1) := by decide +kernel
theorem dX4_go_44 : decode cX4_go 44 = .ok (.isub, 1) := by decide +kernel
theorem dX4_go_45 : decode cX4_go 45 = .ok (.aload_n 0, 1) := by decide +kernel
theorem dX4_go_46 : decode cX4_go 46 = .ok (.getfield 17, 3) := by decide +kernel
theorem dX4_go_49 : decode cX4_go 49 = .ok (.iload_n 3, 1) := by decide +kernel
theorem dX4_go_50 : decode cX4_go 50 = .ok (.iconst 3, 1) := by decide +kernel
theorem dX4_go_51 : decode cX4_go 51 = .ok (.iadd, 1) := by decide +kernel
theorem dX4_go_52 : decode cX4_go 52 = .ok (.iaload, 1) := by decide +kernel
theorem dX4_go_53 : decode cX4_go 53 = .ok (.if_icmp .lt 15, 3) := by decide +kernel
theorem dX4_go_56 : decode cX4_go 56 = .ok (.aload_n 0, 1) := by decide +kernel
theorem dX4_go_57 : decode cX4_go 57 = .ok (.getfield 17, 3) := by decide +kernel
theorem dX4_go_60 : decode cX4_go 60 = .ok (.iload_n 3, 1) := by decide +kernel
theorem dX4_go_61 : decode cX4_go 61 = .ok (.iconst 4, 1) := by decide +kernel
theorem dX4_go_62 : decode cX4_go 62 = .ok (.iadd, 1) := by decide +kernel
theorem dX4_go_63 : decode cX4_go 63 = .ok (.iconst 3, 1) := by decide +kernel
theorem dX4_go_64 : decode cX4_go 64 = .ok (.iastore, 1) := by decide +kernel
theorem dX4_go_65 : decode cX4_go 65 = .ok (.goto 200, 3) := by decide +kernel
theorem dX4_go_68 : decode cX4_go 68 = .ok (.aload_n 0, 1) := by decide +kernel
theorem dX4_go_69 : decode cX4_go 69 = .ok (.getfield 17, 3) := by decide +kernel
theorem dX4_go_72 : decode cX4_go 72 = .ok (.iload_n 3, 1) := by decide +kernel
theorem dX4_go_73 : decode cX4_go 73 = .ok (.iconst 4, 1) := by decide +kernel
theorem dX4_go_74 : decode cX4_go 74 = .ok (.iadd, 1) := by decide +kernel
theorem dX4_go_75 : decode cX4_go 75 = .ok (.iaload, 1) := by decide +kernel
theorem dX4_go_76 : decode cX4_go 76 = .ok (.iconst 1, 1) := by decide +kernel
theorem dX4_go_77 : decode cX4_go 77 = .ok (.if_icmp .ne 188, 3) := by decide +kernel
theorem dX4_go_80 : decode cX4_go 80 = .ok (.aload_n 0, 1) := by decide +kernel
theorem dX4_go_81 : decode cX4_go 81 = .ok (.iload_n 1, 1) := by decide +kernel
theorem dX4_go_82 : decode cX4_go 82 = .ok (.iload 4, 2) := by decide +kernel
theorem dX4_go_84 : decode cX4_go 84 = .ok (.invokevirtual 174, 3) := by decide +kernel
theorem dX4_go_87 : decode cX4_go 87 = .ok (.ifCond .ne 72, 3) := by decide +kernel
theorem dX4_go_90 : decode cX4_go 90 = .ok (.aload_n 0, 1) := by decide +kernel
theorem dX4_go_91 : decode cX4_go 91 = .ok (.iload 4, 2) := by decide +kernel
theorem dX4_go_93 : decode cX4_go 93 = .ok (.invokevirtual 180, 3) := by decide +kernel
theorem dX4_go_96 : decode cX4_go 96 = .ok (.aload_n 0, 1) := by decide +kernel
theorem dX4_go_97 : decode cX4_go 97 = .ok (.getfield 17, 3) := by decide +kernel
theorem dX4_go_100 : decode cX4_go 100 = .ok (.bipush 7, 2) := by decide +kernel
theorem dX4_go_102 : decode cX4_go 102 = .ok (.iconst 2, 1) := by decide +kernel
theorem dX4_go_103 : decode cX4_go 103 = .ok (.iload 4, 2) := by decide +kernel
theorem dX4_go_105 : decode cX4_go 105 = .ok (.imul, 1) := by decide +kernel
theorem dX4_go_106 : decode cX4_go 106 = .ok (.iadd, 1) := by decide +kernel
theorem dX4_go_107 : decode cX4_go 107 = .ok (.iconst 1, 1) := by decide +kernel
theorem dX4_go_108 : decode cX4_go 108 = .ok (.iadd, 1) := by decide +kernel
theorem dX4_go_109 : decode cX4_go 109 = .ok (.iaload, 1) := by decide +kernel
theorem dX4_go_110 : decode cX4_go 110 = .ok (.if_icmp .lt 49, 3) := by decide +kernel
theorem dX4_go_113 : decode cX4_go 113 = .ok (.aload_n 0, 1) := by decide +kernel
theorem dX4_go_114 : decode cX4_go 114 = .ok (.getfield 17, 3) := by decide +kernel
theorem dX4_go_117 : decode cX4_go 117 = .ok (.iload_n 3, 1) := by decide +kernel
theorem dX4_go_118 : decode cX4_go 118 = .ok (.bipush 8, 2) := by decide +kernel
theorem dX4_go_120 : decode cX4_go 120 = .ok (.iadd, 1) := by decide +kernel
theorem dX4_go_121 : decode cX4_go 121 = .ok (.iaload, 1) := by decide +kernel
theorem dX4_go_122 : decode cX4_go 122 = .ok (.aload_n 0, 1) := by decide +kernel
theorem dX4_go_123 : decode cX4_go 123 = .ok (.getfield 17, 3) := by decide +kernel
theorem dX4_go_126 : decode cX4_go 126 = .ok (.iconst 4, 1) := by decide +kernel
theorem dX4_go_127 : decode cX4_go 127 = .ok (.iaload, 1) := by decide +kernel
theorem dX4_go_128 : decode cX4_go 128 = .ok (.if_icmp .lt 15, 3) := by decide +kernel
theorem dX4_go_131 : decode cX4_go 131 = .ok (.aload_n 0, 1) := by decide +kernel
theorem dX4_go_132 : decode cX4_go 132 = .ok (.getfield 17, 3) := by decide +kernel
theorem dX4_go_135 : decode cX4_go 135 = .ok (.iload_n 3, 1) := by decide +kernel
theorem dX4_go_136 : decode cX4_go 136 = .ok (.iconst 4, 1) := by decide +kernel
theorem dX4_go_137 : decode cX4_go 137 = .ok (.iadd, 1) := by decide +kernel
theorem dX4_go_138 : decode cX4_go 138 = .ok (.iconst 4, 1) := by decide +kernel
theorem dX4_go_139 : decode cX4_go 139 = .ok (.iastore, 1) := by decide +kernel
theorem dX4_go_140 : decode cX4_go 140 = .ok (.goto 125, 3) := by decide +kernel
theorem dX4_go_143 : decode cX4_go 143 = .ok (.aload_n 0, 1) := by decide +kernel
theorem dX4_go_144 : decode cX4_go 144 = .ok (.getfield 17, 3) := by decide +kernel
theorem dX4_go_147 : decode cX4_go 147 = .ok (.iload_n 3, 1) := by decide +kernel
theorem dX4_go_148 : decode cX4_go 148 = .ok (.bipush 8, 2) := by decide +kernel
theorem dX4_go_150 : decode cX4_go 150 = .ok (.iadd, 1) := by decide +kernel
theorem dX4_go_151 : decode cX4_go 151 = .ok (.dup2, 1) := by decide +kernel
theorem dX4_go_152 : decode cX4_go 152 = .ok (.iaload, 1) := by decide +kernel
theorem dX4_go_153 : decode cX4_go 153 = .ok (.iconst 1, 1) := by decide +kernel
theorem dX4_go_154 : decode cX4_go 154 = .ok (.iadd, 1) := by decide +kernel
theorem dX4_go_155 : decode cX4_go 155 = .ok (.iastore, 1) := by decide +kernel
theorem dX4_go_156 : decode cX4_go 156 = .ok (.goto 109, 3) := by decide +kernel
theorem dX4_go_159 : decode cX4_go 159 = .ok (.aload_n 0, 1) := by decide +kernel
theorem dX4_go_160 : decode cX4_go 160 = .ok (.getfield 17, 3) := by decide +kernel
theorem dX4_go_163 : decode cX4_go 163 = .ok (.aload_n 0, 1) := by decide +kernel
theorem dX4_go_164 : decode cX4_go 164 = .ok (.iload_n 3, 1) := by decide +kernel
theorem dX4_go_165 : decode cX4_go 165 = .ok (.invokevirtual 183, 3) := by decide +kernel
theorem dX4_go_168 : decode cX4_go 168 = .ok (.iaload, 1) := by decide +kernel
theorem dX4_go_169 : decode cX4_go 169 = .ok (.aload_n 0, 1) := by decide +kernel
theorem dX4_go_170 : decode cX4_go 170 = .ok (.getfield 17, 3) := by decide +kernel
theorem dX4_go_173 : decode cX4_go 173 = .ok (.iload_n 3, 1) := by decide +kernel
theorem dX4_go_174 : decode cX4_go 174 = .ok (.iconst 2, 1) := by decide +kernel
theorem dX4_go_175 : decode cX4_go 175 = .ok (.iadd, 1) := by decide +kernel
theorem dX4_go_176 : decode cX4_go 176 = .ok (.iaload, 1) := by decide +kernel
theorem dX4_go_177 : decode cX4_go 177 = .ok (.if_icmp .ge 43, 3) := by decide +kernel
theorem dX4_go_180 : decode cX4_go 180 = .ok (.aload_n 0, 1) := by decide +kernel
theorem dX4_go_181 : decode cX4_go 181 = .ok (.getfield 17, 3) := by decide +kernel
theorem dX4_go_184 : decode cX4_go 184 = .ok (.iload_n 3, 1) := by decide +kernel
theorem dX4_go_185 : decode cX4_go 185 = .ok (.bipush 6, 2) := by decide +kernel
theorem dX4_go_187 : decode cX4_go 187 = .ok (.iadd, 1) := by decide +kernel
theorem dX4_go_188 : decode cX4_go 188 = .ok (.iaload, 1) := by decide +kernel
theorem dX4_go_189 : decode cX4_go 189 = .ok (.ifCond .le 19, 3) := by decide +kernel
theorem dX4_go_192 : decode cX4_go 192 = .ok (.aload_n 0, 1) := by decide +kernel
theorem dX4_go_193 : decode cX4_go 193 = .ok (.getfield 17, 3) := by decide +kernel
theorem dX4_go_196 : decode cX4_go 196 = .ok (.iload_n 3, 1) := by decide +kernel
theorem dX4_go_197 : decode cX4_go 197 = .ok (.bipush 6, 2) := by decide +kernel
theorem dX4_go_199 : decode cX4_go 199 = .ok (.iadd, 1) := by decide +kernel
theorem dX4_go_200 : decode cX4_go 200 = .ok (.dup2, 1) := by decide +kernel
theorem dX4_go_201 : decode cX4_go 201 = .ok (.iaload, 1) := by decide +kernel
theorem dX4_go_202 : decode cX4_go 202 = .ok (.iconst 1, 1) := by decide +kernel
theorem dX4_go_203 : decode cX4_go 203 = .ok (.isub, 1) := by decide +kernel
theorem dX4_go_204 : decode cX4_go 204 = .ok (.iastore, 1) := by decide +kernel
theorem dX4_go_205 : decode cX4_go 205 = .ok (.goto 60, 3) := by decide +kernel
theorem dX4_go_208 : decode cX4_go 208 = .ok (.aload_n 0, 1) := by decide +kernel
theorem dX4_go_209 : decode cX4_go 209 = .ok (.getfield 17, 3) := by decide +kernel
theorem dX4_go_212 : decode cX4_go 212 = .ok (.iload_n 3, 1) := by decide +kernel
theorem dX4_go_213 : decode cX4_go 213 = .ok (.iconst 4, 1) := by decide +kernel
theorem dX4_go_214 : decode cX4_go 214 = .ok (.iadd, 1) := by decide +kernel
theorem dX4_go_215 : decode cX4_go 215 = .ok (.iconst 4, 1) := by decide +kernel
theorem dX4_go_216 : decode cX4_go 216 = .ok (.iastore, 1) := by decide +kernel
theorem dX4_go_217 : decode cX4_go 217 = .ok (.goto 48, 3) := by decide +kernel
theorem dX4_go_220 : decode cX4_go 220 = .ok (.aload_n 0, 1) := by decide +kernel
theorem dX4_go_221 : decode cX4_go 221 = .ok (.getfield 17, 3) := by decide +kernel
theorem dX4_go_224 : decode cX4_go 224 = .ok (.aload_n 0, 1) := by decide +kernel
theorem dX4_go_225 : decode cX4_go 225 = .ok (.iload_n 3, 1) := by decide +kernel
theorem dX4_go_226 : decode cX4_go 226 = .ok (.invokevirtual 183, 3) := by decide +kernel
theorem dX4_go_229 : decode cX4_go 229 = .ok (.dup2, 1) := by decide +kernel
theorem dX4_go_230 : decode cX4_go 230 = .ok (.iaload, 1) := by decide +kernel
theorem dX4_go_231 : decode cX4_go 231 = .ok (.aload_n 0, 1) := by decide +kernel
theorem dX4_go_232 : decode cX4_go 232 = .ok (.getfield 17, 3) := by decide +kernel
theorem dX4_go_235 : decode cX4_go 235 = .ok (.iload_n 3, 1) := by decide +kernel
theorem dX4_go_236 : decode cX4_go 236 = .ok (.iconst 2, 1) := by decide +kernel
theorem dX4_go_237 : decode cX4_go 237 = .ok (.iadd, 1) := by decide +kernel
theorem dX4_go_238 : decode cX4_go 238 = .ok (.iaload, 1) := by decide +kernel
theorem dX4_go_239 : decode cX4_go 239 = .ok (.isub, 1) := by decide +kernel
theorem dX4_go_240 : decode cX4_go 240 = .ok (.iastore, 1) := by decide +kernel
theorem dX4_go_241 : decode cX4_go 241 = .ok (.aload_n 0, 1) := by decide +kernel
theorem dX4_go_242 : decode cX4_go 242 = .ok (.getfield 17, 3) := by decide +kernel
theorem dX4_go_245 : decode cX4_go 245 = .ok (.iload_n 3, 1) := by decide +kernel
theorem dX4_go_246 : decode cX4_go 246 = .ok (.iconst 4, 1) := by decide +kernel
theorem dX4_go_247 : decode cX4_go 247 = .ok (.iadd, 1) := by decide +kernel
theorem dX4_go_248 : decode cX4_go 248 = .ok (.iconst 2, 1) := by decide +kernel
theorem dX4_go_249 : decode cX4_go 249 = .ok (.iastore, 1) := by decide +kernel
theorem dX4_go_250 : decode cX4_go 250 = .ok (.aload_n 0, 1) := by decide +kernel
theorem dX4_go_251 : decode cX4_go 251 = .ok (.getfield 17, 3) := by decide +kernel
theorem dX4_go_254 : decode cX4_go 254 = .ok (.iload_n 3, 1) := by decide +kernel
theorem dX4_go_255 : decode cX4_go 255 = .ok (.bipush 8, 2) := by decide +kernel
theorem dX4_go_257 : decode cX4_go 257 = .ok (.iadd, 1) := by decide +kernel
theorem dX4_go_258 : decode cX4_go 258 = .ok (.aload_n 0, 1) := by decide +kernel
theorem dX4_go_259 : decode cX4_go 259 = .ok (.getfield 17, 3) := by decide +kernel
theorem dX4_go_262 : decode cX4_go 262 = .ok (.iconst 0, 1) := by decide +kernel
theorem dX4_go_263 : decode cX4_go 263 = .ok (.iaload, 1) := by decide +kernel
theorem dX4_go_264 : decode cX4_go 264 = .ok (.iastore, 1) := by decide +kernel
theorem dX4_go_265 : decode cX4_go 265 = .ok (.return_, 1) := by decide +kernel
set_option maxRecDepth 20000 in
theorem ggX4_isAt_X4_stepAt : GoodIn wsX4_isAt wsX4_stepAt := goodIn_r _ [6, 7, 8, 9, 5, 10, 1, 11, 12, 13, 14, 15, 16, 17, 18, 19, 20, 21, 22, 23, 24, 25, 26, 27, 28] (by decide +kernel) (by decide +kernel)
set_option maxRecDepth 20000 in
theorem gX4_isAt_X4_stepAt : GoodIn wsX4_isAt (wsV RX4 161 RX4 yX4_stepAt wsX4_stepAt) := goodIn_app (goodIn_of _ (by decide +kernel)) ggX4_isAt_X4_stepAt
theorem dX4_isAt_0 : decode cX4_isAt 0 = .ok (.aload_n 0, 1) := by decide +kernel
theorem dX4_isAt_1 : decode cX4_isAt 1 = .ok (.getfield 17, 3) := by decide +kernel
theorem dX4_isAt_4 : decode cX4_isAt 4 = .ok (.aload_n 0, 1) := by decide +kernel
theorem dX4_isAt_5 : decode cX4_isAt 5 = .ok (.iload_n 1, 1) := by decide +kernel
theorem dX4_isAt_6 : decode cX4_isAt 6 = .ok (.iload_n 2, 1) := by decide +kernel
theorem dX4_isAt_7 : decode cX4_isAt 7 = .ok (.invokevirtual 161, 3) := by decide +kernel
theorem dX4_isAt_10 : decode cX4_isAt 10 = .ok (.iconst 0, 1) := by decide +kernel
theorem dX4_isAt_11 : decode cX4_isAt 11 = .ok (.iadd, 1) := by decide +kernel
theorem dX4_isAt_12 : decode cX4_isAt 12 = .ok (.iaload, 1) := by decide +kernel
theorem dX4_isAt_13 : decode cX4_isAt 13 = .ok (.iload_n 3, 1) := by decide +kernel
theorem dX4_isAt_14 : decode cX4_isAt 14 = .ok (.if_icmp .ne 7, 3) := by decide +kernel
theorem dX4_isAt_17 : decode cX4_isAt 17 = .ok (.iconst 1, 1) := by decide +kernel
theorem dX4_isAt_18 : decode cX4_isAt 18 = .ok (.goto 4, 3) := by decide +kernel
theorem dX4_isAt_21 : decode cX4_isAt 21 = .ok (.iconst 0, 1) := by decide +kernel
theorem dX4_isAt_22 : decode cX4_isAt 22 = .ok (.ireturn, 1) := by decide +kernel
set_option maxRecDepth 20000 in
theorem ggX4_countAt_X4_ofJourney : GoodIn wsX4_countAt wsX4_ofJourney := goodIn_r _ [5, 6, 7, 8, 4, 9, 22, 23, 24, 25, 26, 27, 28, 29, 30, 31, 32, 33, 34, 35, 36] (by decide +kernel) (by decide +kernel)
set_option maxRecDepth 20000 in
theorem gX4_countAt_X4_ofJourney : GoodIn wsX4_countAt (wsV RX4 158 RX4 yX4_ofJourney wsX4_ofJourney) := goodIn_app (goodIn_of _ (by decide +kernel)) ggX4_countAt_X4_ofJourney
set_option maxRecDepth 20000 in
theorem ggX4_countAt_X4_isAt : GoodIn wsX4_countAt wsX4_isAt := goodIn_r _ [13, 6, 14, 15, 16, 4, 17, 1, 2, 3, 5, 7, 8, 9, 22, 23, 24, 25, 26, 27, 28, 29, 30, 31, 32, 33, 34, 35, 36] (by decide +kernel) (by decide +kernel)
set_option maxRecDepth 20000 in
theorem gX4_countAt_X4_isAt : GoodIn wsX4_countAt (wsV RX4 186 RX4 yX4_isAt wsX4_isAt) := goodIn_app (goodIn_of _ (by decide +kernel)) ggX4_countAt_X4_isAt
set_option maxRecDepth 20000 in
theorem ggX4_countAt_X4_stateOf : GoodIn wsX4_countAt wsX4_stateOf := goodIn_r _ [21, 6, 14, 15, 16, 4, 17, 1, 2, 3, 5, 7, 8, 9, 22, 23, 24, 25, 26, 27, 28, 29, 30, 31, 32, 33, 34, 35, 36] (by decide +kernel) (by decide +kernel)
set_option maxRecDepth 20000 in
theorem gX4_countAt_X4_stateOf : GoodIn wsX4_countAt (wsV RX4 164 RX4 yX4_stateOf wsX4_stateOf) := goodIn_app (goodIn_of _ (by decide +kernel)) ggX4_countAt_X4_stateOf
theorem dX4_countAt_0 : decode cX4_countAt 0 = .ok (.iconst 0, 1) := by decide +kernel
theorem dX4_countAt_1 : decode cX4_countAt 1 = .ok (.istore 4, 2) := by decide +kernel
theorem dX4_countAt_3 : decode cX4_countAt 3 = .ok (.iconst 0, 1) := by decide +kernel
theorem dX4_countAt_4 : decode cX4_countAt 4 = .ok (.istore 5, 2) := by decide +kernel
theorem dX4_countAt_6 : decode cX4_countAt 6 = .ok (.iload 5, 2) := by decide +kernel
theorem dX4_countAt_8 : decode cX4_countAt 8 = .ok (.aload_n 0, 1) := by decide +kernel
theorem dX4_countAt_9 : decode cX4_countAt 9 = .ok (.iload_n 1, 1) := by decide +kernel
theorem dX4_countAt_10 : decode cX4_countAt 10 = .ok (.iconst 3, 1) := by decide +kernel
theorem dX4_countAt_11 : decode cX4_countAt 11 = .ok (.invokevirtual 158, 3) := by decide +kernel
theorem dX4_countAt_14 : decode cX4_countAt 14 = .ok (.if_icmp .ge 41, 3) := by decide +kernel
theorem dX4_countAt_17 : decode cX4_countAt 17 = .ok (.iload 4, 2) := by decide +kernel
theorem dX4_countAt_19 : decode cX4_countAt 19 = .ok (.aload_n 0, 1) := by decide +kernel
theorem dX4_countAt_20 : decode cX4_countAt 20 = .ok (.iload_n 1, 1) := by decide +kernel
theorem dX4_countAt_21 : decode cX4_countAt 21 = .ok (.iload 5, 2) := by decide +kernel
theorem dX4_countAt_23 : decode cX4_countAt 23 = .ok (.iload_n 2, 1) := by decide +kernel
theorem dX4_countAt_24 : decode cX4_countAt 24 = .ok (.invokevirtual 186, 3) := by decide +kernel
theorem dX4_countAt_27 : decode cX4_countAt 27 = .ok (.ifCond .eq 18, 3) := by decide +kernel
theorem dX4_countAt_30 : decode cX4_countAt 30 = .ok (.aload_n 0, 1) := by decide +kernel
theorem dX4_countAt_31 : decode cX4_countAt 31 = .ok (.iload_n 1, 1) := by decide +kernel
theorem dX4_countAt_32 : decode cX4_countAt 32 = .ok (.iload 5, 2) := by decide +kernel
theorem dX4_countAt_34 : decode cX4_countAt 34 = .ok (.invokevirtual 164, 3) := by decide +kernel
theorem dX4_countAt_37 : decode cX4_countAt 37 = .ok (.iload_n 3, 1) := by decide +kernel
theorem dX4_countAt_38 : decode cX4_countAt 38 = .ok (.if_icmp .ne 7, 3) := by decide +kernel
theorem dX4_countAt_41 : decode cX4_countAt 41 = .ok (.iconst 1, 1) := by decide +kernel
theorem dX4_countAt_42 : decode cX4_countAt 42 = .ok (.goto 4, 3) := by decide +kernel
theorem dX4_countAt_45 : decode cX4_countAt 45 = .ok (.iconst 0, 1) := by decide +kernel
theorem dX4_countAt_46 : decode cX4_countAt 46 = .ok (.iadd, 1) := by decide +kernel
theorem dX4_countAt_47 : decode cX4_countAt 47 = .ok (.istore 4, 2) := by decide +kernel
theorem dX4_countAt_49 : decode cX4_countAt 49 = .ok (.iinc 5 1, 3) := by decide +kernel
theorem dX4_countAt_52 : decode cX4_countAt 52 = .ok (.goto (-46), 3) := by decide +kernel
theorem dX4_countAt_55 : decode cX4_countAt 55 = .ok (.iload 4, 2) := by decide +kernel
theorem dX4_countAt_57 : decode cX4_countAt 57 = .ok (.ireturn, 1) := by decide +kernel
set_option maxRecDepth 20000 in
theorem ggX4_isOver_X4_ofJourney : GoodIn wsX4_isOver wsX4_ofJourney := goodIn_r _ [5, 6, 7, 8, 4, 9, 26, 27, 28, 29, 30, 31, 32, 33, 34, 35, 36, 37, 38, 39, 40] (by decide +kernel) (by decide +kernel)
set_option maxRecDepth 20000 in
theorem gX4_isOver_X4_ofJourney : GoodIn wsX4_isOver (wsV RX4 158 RX4 yX4_ofJourney wsX4_ofJourney) := goodIn_app (goodIn_of _ (by decide +kernel)) ggX4_isOver_X4_ofJourney
set_option maxRecDepth 20000 in
theorem ggX4_isOver_X4_isAt : GoodIn wsX4_isOver wsX4_isAt := goodIn_r _ [13, 6, 14, 15, 16, 4, 17, 1, 2, 3, 5, 7, 8, 9, 26, 27, 28, 29, 30, 31, 32, 33, 34, 35, 36, 37, 38, 39, 40] (by decide +kernel) (by decide +kernel)
set_option maxRecDepth 20000 in
theorem gX4_isOver_X4_isAt : GoodIn wsX4_isOver (wsV RX4 186 RX4 yX4_isAt wsX4_isAt) := goodIn_app (goodIn_of _ (by decide +kernel)) ggX4_isOver_X4_isAt
set_option maxRecDepth 20000 in
theorem ggX4_isOver_X4_isSettled : GoodIn wsX4_isOver wsX4_isSettled := goodIn_r _ [21, 22, 23, 24, 4, 25, 6, 14, 15, 16, 17, 1, 2, 3, 5, 7, 8, 9, 26, 27, 28, 29, 30, 31, 32, 33, 34, 35, 36, 37, 38, 39, 40] (by decide +kernel) (by decide +kernel)
set_option maxRecDepth 20000 in
theorem gX4_isOver_X4_isSettled : GoodIn wsX4_isOver (wsV RX4 189 RX4 yX4_isSettled wsX4_isSettled) := goodIn_app (goodIn_of _ (by decide +kernel)) ggX4_isOver_X4_isSettled
theorem dX4_isOver_0 : decode cX4_isOver 0 = .ok (.iconst 0, 1) := by decide +kernel
theorem dX4_isOver_1 : decode cX4_isOver 1 = .ok (.istore_n 3, 1) := by decide +kernel
theorem dX4_isOver_2 : decode cX4_isOver 2 = .ok (.iload_n 3, 1) := by decide +kernel
theorem dX4_isOver_3 : decode cX4_isOver 3 = .ok (.aload_n 0, 1) := by decide +kernel
theorem dX4_isOver_4 : decode cX4_isOver 4 = .ok (.iload_n 1, 1) := by decide +kernel
theorem dX4_isOver_5 : decode cX4_isOver 5 = .ok (.iconst 3, 1) := by decide +kernel
theorem dX4_isOver_6 : decode cX4_isOver 6 = .ok (.invokevirtual 158, 3) := by decide +kernel
theorem dX4_isOver_9 : decode cX4_isOver 9 = .ok (.if_icmp .ge 30, 3) := by decide +kernel
theorem dX4_isOver_12 : decode cX4_isOver 12 = .ok (.aload_n 0, 1) := by decide +kernel
theorem dX4_isOver_13 : decode cX4_isOver 13 = .ok (.iload_n 1, 1) := by decide +kernel
theorem dX4_isOver_14 : decode cX4_isOver 14 = .ok (.iload_n 3, 1) := by decide +kernel
theorem dX4_isOver_15 : decode cX4_isOver 15 = .ok (.iload_n 2, 1) := by decide +kernel
theorem dX4_isOver_16 : decode cX4_isOver 16 = .ok (.invokevirtual 186, 3) := by decide +kernel
theorem dX4_isOver_19 : decode cX4_isOver 19 = .ok (.ifCond .eq 14, 3) := by decide +kernel
theorem dX4_isOver_22 : decode cX4_isOver 22 = .ok (.aload_n 0, 1) := by decide +kernel
theorem dX4_isOver_23 : decode cX4_isOver 23 = .ok (.iload_n 1, 1) := by decide +kernel
theorem dX4_isOver_24 : decode cX4_isOver 24 = .ok (.iload_n 3, 1) := by decide +kernel
theorem dX4_isOver_25 : decode cX4_isOver 25 = .ok (.invokevirtual 189, 3) := by decide +kernel
theorem dX4_isOver_28 : decode cX4_isOver 28 = .ok (.ifCond .ne 5, 3) := by decide +kernel
theorem dX4_isOver_31 : decode cX4_isOver 31 = .ok (.iconst 0, 1) := by decide +kernel
theorem dX4_isOver_32 : decode cX4_isOver 32 = .ok (.ireturn, 1) := by decide +kernel
theorem dX4_isOver_33 : decode cX4_isOver 33 = .ok (.iinc 3 1, 3) := by decide +kernel
theorem dX4_isOver_36 : decode cX4_isOver 36 = .ok (.goto (-34), 3) := by decide +kernel
theorem dX4_isOver_39 : decode cX4_isOver 39 = .ok (.iconst 1, 1) := by decide +kernel
theorem dX4_isOver_40 : decode cX4_isOver 40 = .ok (.ireturn, 1) := by decide +kernel
set_option maxRecDepth 20000 in
theorem ggX4_goOn_X4_ofJourney : GoodIn wsX4_goOn wsX4_ofJourney := goodIn_r _ [6, 1, 7, 8, 5, 9, 74, 75, 76, 77, 78, 79, 80, 81, 82, 83, 84, 85, 86, 87, 88] (by decide +kernel) (by decide +kernel)
set_option maxRecDepth 20000 in
theorem gX4_goOn_X4_ofJourney : GoodIn wsX4_goOn (wsV RX4 158 RX4 yX4_ofJourney wsX4_ofJourney) := goodIn_app (goodIn_of _ (by decide +kernel)) ggX4_goOn_X4_ofJourney
set_option maxRecDepth 20000 in
theorem ggX4_goOn_X4_isAt : GoodIn wsX4_goOn wsX4_isAt := goodIn_r _ [13, 1, 14, 15, 16, 5, 17, 2, 3, 4, 6, 7, 8, 9, 74, 75, 76, 77, 78, 79, 80, 81, 82, 83, 84, 85, 86, 87, 88] (by decide +kernel) (by decide +kernel)
set_option maxRecDepth 20000 in
theorem gX4_goOn_X4_isAt : GoodIn wsX4_goOn (wsV RX4 186 RX4 yX4_isAt wsX4_isAt) := goodIn_app (goodIn_of _ (by decide +kernel)) ggX4_goOn_X4_isAt
set_option maxRecDepth 20000 in
theorem ggX4_goOn_X4_go : GoodIn wsX4_goOn wsX4_go := goodIn_r _ [21, 1, 14, 15, 16, 5, 17, 2, 3, 4, 6, 7, 8, 9, 22, 23, 24, 25, 26, 27, 28, 29, 30, 31, 32, 33, 34, 35, 36, 37, 38, 39, 40, 41, 42, 43, 44, 45, 74, 75, 76, 77, 78, 79, 80, 81, 82, 83, 84, 85, 86, 87, 88] (by decide +kernel) (by decide +kernel)
set_option maxRecDepth 20000 in
theorem gX4_goOn_X4_go : GoodIn wsX4_goOn (wsV RX4 192 RX4 yX4_go wsX4_go) := goodIn_app (goodIn_of _ (by decide +kernel)) ggX4_goOn_X4_go
set_option maxRecDepth 20000 in
theorem ggX4_goOn_X4_isOver : GoodIn wsX4_goOn wsX4_isOver := goodIn_r _ [49, 2, 3, 4, 5, 6, 1, 7, 8, 9, 10, 11, 12, 13, 14, 15, 16, 17, 50, 51, 52, 53, 34, 35, 36, 37, 74, 75, 76, 77, 78, 79, 80, 81, 82, 83, 84, 85, 86, 87, 88] (by decide +kernel) (by decide +kernel)
set_option maxRecDepth 20000 in
theorem gX4_goOn_X4_isOver : GoodIn wsX4_goOn (wsV RX4 195 RX4 yX4_isOver wsX4_isOver) := goodIn_app (goodIn_of _ (by decide +kernel)) ggX4_goOn_X4_isOver
set_option maxRecDepth 20000 in
theorem ggX4_goOn_X4_rest : GoodIn wsX4_goOn wsX4_rest := goodIn_r _ [57, 1, 7, 8, 5, 9, 74, 75, 76, 77, 78, 79, 80, 81, 82, 83, 84, 85, 86, 87, 88] (by decide +kernel) (by decide +kernel)
set_option maxRecDepth 20000 in
theorem gX4_goOn_X4_rest : GoodIn wsX4_goOn (wsV RX4 198 RX4 yX4_rest wsX4_rest) := goodIn_app (goodIn_of _ (by decide +kernel)) ggX4_goOn_X4_rest
set_option maxRecDepth 20000 in
theorem ggX4_goOn_X4_present : GoodIn wsX4_goOn wsX4_present := goodIn_r _ [61, 1, 7, 8, 5, 9, 2, 3, 4, 6, 14, 15, 16, 17, 62, 63, 64, 65, 74, 75, 76, 77, 78, 79, 80, 81, 82, 83, 84, 85, 86, 87, 88] (by decide +kernel) (by decide +kernel)
set_option maxRecDepth 20000 in
theorem gX4_goOn_X4_present : GoodIn wsX4_goOn (wsV RX4 201 RX4 yX4_present wsX4_present) := goodIn_app (goodIn_of _ (by decide +kernel)) ggX4_goOn_X4_present
set_option maxRecDepth 20000 in
theorem ggX4_goOn_X4_countAt : GoodIn wsX4_goOn wsX4_countAt := goodIn_r _ [69, 2, 3, 4, 5, 6, 1, 7, 8, 9, 10, 11, 12, 13, 14, 15, 16, 17, 34, 35, 36, 37, 74, 75, 76, 77, 78, 79, 80, 81, 82, 83, 84, 85, 86, 87, 88] (by decide +kernel) (by decide +kernel)
set_option maxRecDepth 20000 in
theorem gX4_goOn_X4_countAt : GoodIn wsX4_goOn (wsV RX4 204 RX4 yX4_countAt wsX4_countAt) := goodIn_app (goodIn_of _ (by decide +kernel)) ggX4_goOn_X4_countAt
set_option maxRecDepth 20000 in
theorem ggX4_goOn_X4_stateOf : GoodIn wsX4_goOn wsX4_stateOf := goodIn_r _ [37, 1, 14, 15, 16, 5, 17, 2, 3, 4, 6, 7, 8, 9, 74, 75, 76, 77, 78, 79, 80, 81, 82, 83, 84, 85, 86, 87, 88] (by decide +kernel) (by decide +kernel)
set_option maxRecDepth 20000 in
theorem gX4_goOn_X4_stateOf : GoodIn wsX4_goOn (wsV RX4 164 RX4 yX4_stateOf wsX4_stateOf) := goodIn_app (goodIn_of _ (by decide +kernel)) ggX4_goOn_X4_stateOf
set_option maxRecDepth 20000 in
theorem ggX4_goOn_X4_stepAt : GoodIn wsX4_goOn wsX4_stepAt := goodIn_r _ [17, 2, 3, 4, 5, 6, 1, 7, 8, 9, 74, 75, 76, 77, 78, 79, 80, 81, 82, 83, 84, 85, 86, 87, 88] (by decide +kernel) (by decide +kernel)
set_option maxRecDepth 20000 in
theorem gX4_goOn_X4_stepAt : GoodIn wsX4_goOn (wsV RX4 161 RX4 yX4_stepAt wsX4_stepAt) := goodIn_app (goodIn_of _ (by decide +kernel)) ggX4_goOn_X4_stepAt
set_option maxRecDepth 20000 in
theorem ggX4_goOn_X4_beUndoing : GoodIn wsX4_goOn wsX4_beUndoing := goodIn_r _ [73, 1, 7, 8, 5, 9, 74, 75, 76, 77, 78, 79, 80, 81, 82, 83, 84, 85, 86, 87, 88] (by decide +kernel) (by decide +kernel)
set_option maxRecDepth 20000 in
theorem gX4_goOn_X4_beUndoing : GoodIn wsX4_goOn (wsV RX4 208 RX4 yX4_beUndoing wsX4_beUndoing) := goodIn_app (goodIn_of _ (by decide +kernel)) ggX4_goOn_X4_beUndoing
theorem dX4_goOn_0 : decode cX4_goOn 0 = .ok (.aload_n 0, 1) := by decide +kernel
theorem dX4_goOn_1 : decode cX4_goOn 1 = .ok (.iload_n 1, 1) := by decide +kernel
theorem dX4_goOn_2 : decode cX4_goOn 2 = .ok (.iconst 4, 1) := by decide +kernel
theorem dX4_goOn_3 : decode cX4_goOn 3 = .ok (.invokevirtual 158, 3) := by decide +kernel
theorem dX4_goOn_6 : decode cX4_goOn 6 = .ok (.istore_n 2, 1) := by decide +kernel
theorem dX4_goOn_7 : decode cX4_goOn 7 = .ok (.iconst 0, 1) := by decide +kernel
theorem dX4_goOn_8 : decode cX4_goOn 8 = .ok (.istore_n 3, 1) := by decide +kernel
theorem dX4_goOn_9 : decode cX4_goOn 9 = .ok (.iload_n 3, 1) := by decide +kernel
theorem dX4_goOn_10 : decode cX4_goOn 10 = .ok (.aload_n 0, 1) := by decide +kernel
theorem dX4_goOn_11 : decode cX4_goOn 11 = .ok (.iload_n 1, 1) := by decide +kernel
theorem dX4_goOn_12 : decode cX4_goOn 12 = .ok (.iconst 3, 1) := by decide +kernel
theorem dX4_goOn_13 : decode cX4_goOn 13 = .ok (.invokevirtual 158, 3) := by decide +kernel
theorem dX4_goOn_16 : decode cX4_goOn 16 = .ok (.if_icmp .ge 25, 3) := by decide +kernel
theorem dX4_goOn_19 : decode cX4_goOn 19 = .ok (.aload_n 0, 1) := by decide +kernel
theorem dX4_goOn_20 : decode cX4_goOn 20 = .ok (.iload_n 1, 1) := by decide +kernel
theorem dX4_goOn_21 : decode cX4_goOn 21 = .ok (.iload_n 3, 1) := by decide +kernel
theorem dX4_goOn_22 : decode cX4_goOn 22 = .ok (.iload_n 2, 1) := by decide +kernel
theorem dX4_goOn_23 : decode cX4_goOn 23 = .ok (.invokevirtual 186, 3) := by decide +kernel
theorem dX4_goOn_26 : decode cX4_goOn 26 = .ok (.ifCond .eq 9, 3) := by decide +kernel
theorem dX4_goOn_29 : decode cX4_goOn 29 = .ok (.aload_n 0, 1) := by decide +kernel
theorem dX4_goOn_30 : decode cX4_goOn 30 = .ok (.iload_n 1, 1) := by decide +kernel
theorem dX4_goOn_31 : decode cX4_goOn 31 = .ok (.iload_n 3, 1) := by decide +kernel
theorem dX4_goOn_32 : decode cX4_goOn 32 = .ok (.invokevirtual 192, 3) := by decide +kernel
theorem dX4_goOn_35 : decode cX4_goOn 35 = .ok (.iinc 3 1, 3) := by decide +kernel
theorem dX4_goOn_38 : decode cX4_goOn 38 = .ok (.goto (-29), 3) := by decide +kernel
theorem dX4_goOn_41 : decode cX4_goOn 41 = .ok (.aload_n 0, 1) := by decide +kernel
theorem dX4_goOn_42 : decode cX4_goOn 42 = .ok (.iload_n 1, 1) := by decide +kernel
theorem dX4_goOn_43 : decode cX4_goOn 43 = .ok (.iload_n 2, 1) := by decide +kernel
theorem dX4_goOn_44 : decode cX4_goOn 44 = .ok (.invokevirtual 195, 3) := by decide +kernel
theorem dX4_goOn_47 : decode cX4_goOn 47 = .ok (.ifCond .eq 33, 3) := by decide +kernel
theorem dX4_goOn_50 : decode cX4_goOn 50 = .ok (.iload_n 2, 1) := by decide +kernel
theorem dX4_goOn_51 : decode cX4_goOn 51 = .ok (.iconst 1, 1) := by decide +kernel
theorem dX4_goOn_52 : decode cX4_goOn 52 = .ok (.iadd, 1) := by decide +kernel
theorem dX4_goOn_53 : decode cX4_goOn 53 = .ok (.aload_n 0, 1) := by decide +kernel
theorem dX4_goOn_54 : decode cX4_goOn 54 = .ok (.iload_n 1, 1) := by decide +kernel
theorem dX4_goOn_55 : decode cX4_goOn 55 = .ok (.iconst 2, 1) := by decide +kernel
theorem dX4_goOn_56 : decode cX4_goOn 56 = .ok (.invokevirtual 158, 3) := by decide +kernel
theorem dX4_goOn_59 : decode cX4_goOn 59 = .ok (.if_icmp .ne 12, 3) := by decide +kernel
theorem dX4_goOn_62 : decode cX4_goOn 62 = .ok (.aload_n 0, 1) := by decide +kernel
theorem dX4_goOn_63 : decode cX4_goOn 63 = .ok (.iload_n 1, 1) := by decide +kernel
theorem dX4_goOn_64 : decode cX4_goOn 64 = .ok (.iconst 3, 1) := by decide +kernel
theorem dX4_goOn_65 : decode cX4_goOn 65 = .ok (.invokevirtual 198, 3) := by decide +kernel
theorem dX4_goOn_68 : decode cX4_goOn 68 = .ok (.goto 11, 3) := by decide +kernel
theorem dX4_goOn_71 : decode cX4_goOn 71 = .ok (.aload_n 0, 1) := by decide +kernel
theorem dX4_goOn_72 : decode cX4_goOn 72 = .ok (.iload_n 1, 1) := by decide +kernel
theorem dX4_goOn_73 : decode cX4_goOn 73 = .ok (.iload_n 2, 1) := by decide +kernel
theorem dX4_goOn_74 : decode cX4_goOn 74 = .ok (.iconst 1, 1) := by decide +kernel
theorem dX4_goOn_75 : decode cX4_goOn 75 = .ok (.iadd, 1) := by decide +kernel
theorem dX4_goOn_76 : decode cX4_goOn 76 = .ok (.invokevirtual 201, 3) := by decide +kernel
theorem dX4_goOn_79 : decode cX4_goOn 79 = .ok (.return_, 1) := by decide +kernel
theorem dX4_goOn_80 : decode cX4_goOn 80 = .ok (.aload_n 0, 1) := by decide +kernel
theorem dX4_goOn_81 : decode cX4_goOn 81 = .ok (.iload_n 1, 1) := by decide +kernel
theorem dX4_goOn_82 : decode cX4_goOn 82 = .ok (.iload_n 2, 1) := by decide +kernel
theorem dX4_goOn_83 : decode cX4_goOn 83 = .ok (.iconst 4, 1) := by decide +kernel
theorem dX4_goOn_84 : decode cX4_goOn 84 = .ok (.invokevirtual 204, 3) := by decide +kernel
theorem dX4_goOn_87 : decode cX4_goOn 87 = .ok (.ifCond .ne 4, 3) := by decide +kernel
theorem dX4_goOn_90 : decode cX4_goOn 90 = .ok (.return_, 1) := by decide +kernel
theorem dX4_goOn_91 : decode cX4_goOn 91 = .ok (.iconst 0, 1) := by decide +kernel
theorem dX4_goOn_92 : decode cX4_goOn 92 = .ok (.istore_n 3, 1) := by decide +kernel
theorem dX4_goOn_93 : decode cX4_goOn 93 = .ok (.iload_n 3, 1) := by decide +kernel
theorem dX4_goOn_94 : decode cX4_goOn 94 = .ok (.aload_n 0, 1) := by decide +kernel
theorem dX4_goOn_95 : decode cX4_goOn 95 = .ok (.iload_n 1, 1) := by decide +kernel
theorem dX4_goOn_96 : decode cX4_goOn 96 = .ok (.iconst 3, 1) := by decide +kernel
theorem dX4_goOn_97 : decode cX4_goOn 97 = .ok (.invokevirtual 158, 3) := by decide +kernel
theorem dX4_goOn_100 : decode cX4_goOn 100 = .ok (.if_icmp .ge 43, 3) := by decide +kernel
theorem dX4_goOn_103 : decode cX4_goOn 103 = .ok (.aload_n 0, 1) := by decide +kernel
theorem dX4_goOn_104 : decode cX4_goOn 104 = .ok (.iload_n 1, 1) := by decide +kernel
theorem dX4_goOn_105 : decode cX4_goOn 105 = .ok (.iload_n 3, 1) := by decide +kernel
theorem dX4_goOn_106 : decode cX4_goOn 106 = .ok (.iload_n 2, 1) := by decide +kernel
theorem dX4_goOn_107 : decode cX4_goOn 107 = .ok (.invokevirtual 186, 3) := by decide +kernel
theorem dX4_goOn_110 : decode cX4_goOn 110 = .ok (.ifCond .eq 27, 3) := by decide +kernel
theorem dX4_goOn_113 : decode cX4_goOn 113 = .ok (.aload_n 0, 1) := by decide +kernel
theorem dX4_goOn_114 : decode cX4_goOn 114 = .ok (.iload_n 1, 1) := by decide +kernel
theorem dX4_goOn_115 : decode cX4_goOn 115 = .ok (.iload_n 3, 1) := by decide +kernel
theorem dX4_goOn_116 : decode cX4_goOn 116 = .ok (.invokevirtual 164, 3) := by decide +kernel
theorem dX4_goOn_119 : decode cX4_goOn 119 = .ok (.iconst 1, 1) := by decide +kernel
theorem dX4_goOn_120 : decode cX4_goOn 120 = .ok (.if_icmp .ne 17, 3) := by decide +kernel
theorem dX4_goOn_123 : decode cX4_goOn 123 = .ok (.aload_n 0, 1) := by decide +kernel
theorem dX4_goOn_124 : decode cX4_goOn 124 = .ok (.getfield 17, 3) := by decide +kernel
theorem dX4_goOn_127 : decode cX4_goOn 127 = .ok (.aload_n 0, 1) := by decide +kernel
theorem dX4_goOn_128 : decode cX4_goOn 128 = .ok (.iload_n 1, 1) := by decide +kernel
theorem dX4_goOn_129 : decode cX4_goOn 129 = .ok (.iload_n 3, 1) := by decide +kernel
theorem dX4_goOn_130 : decode cX4_goOn 130 = .ok (.invokevirtual 161, 3) := by decide +kernel
theorem dX4_goOn_133 : decode cX4_goOn 133 = .ok (.iconst 4, 1) := by decide +kernel
theorem dX4_goOn_134 : decode cX4_goOn 134 = .ok (.iadd, 1) := by decide +kernel
theorem dX4_goOn_135 : decode cX4_goOn 135 = .ok (.iconst 0, 1) := by decide +kernel
theorem dX4_goOn_136 : decode cX4_goOn 136 = .ok (.iastore, 1) := by decide +kernel
theorem dX4_goOn_137 : decode cX4_goOn 137 = .ok (.iinc 3 1, 3) := by decide +kernel
theorem dX4_goOn_140 : decode cX4_goOn 140 = .ok (.goto (-47), 3) := by decide +kernel
theorem dX4_goOn_143 : decode cX4_goOn 143 = .ok (.aload_n 0, 1) := by decide +kernel
theorem dX4_goOn_144 : decode cX4_goOn 144 = .ok (.iload_n 1, 1) := by decide +kernel
theorem dX4_goOn_145 : decode cX4_goOn 145 = .ok (.iload_n 2, 1) := by decide +kernel
theorem dX4_goOn_146 : decode cX4_goOn 146 = .ok (.iconst 2, 1) := by decide +kernel
theorem dX4_goOn_147 : decode cX4_goOn 147 = .ok (.invokevirtual 204, 3) := by decide +kernel
theorem dX4_goOn_150 : decode cX4_goOn 150 = .ok (.ifCond .ne 8, 3) := by decide +kernel
theorem dX4_goOn_153 : decode cX4_goOn 153 = .ok (.aload_n 0, 1) := by decide +kernel
theorem dX4_goOn_154 : decode cX4_goOn 154 = .ok (.iload_n 1, 1) := by decide +kernel
theorem dX4_goOn_155 : decode cX4_goOn 155 = .ok (.invokevirtual 208, 3) := by decide +kernel
theorem dX4_goOn_158 : decode cX4_goOn 158 = .ok (.return_, 1) := by decide +kernel
set_option maxRecDepth 20000 in
theorem ggX4_beUndoing_X4_journeyAt : GoodIn wsX4_beUndoing wsX4_journeyAt := goodIn_r _ [5] (by decide +kernel) (by decide +kernel)
set_option maxRecDepth 20000 in
theorem gX4_beUndoing_X4_journeyAt : GoodIn wsX4_beUndoing (va_wsS RX4 155 yX4_journeyAt wsX4_journeyAt) := goodIn_app (goodIn_of _ (by decide +kernel)) ggX4_beUndoing_X4_journeyAt
theorem dX4_beUndoing_0 : decode cX4_beUndoing 0 = .ok (.iload_n 1, 1) := by decide +kernel
theorem dX4_beUndoing_1 : decode cX4_beUndoing 1 = .ok (.invokestatic 155, 3) := by decide +kernel
theorem dX4_beUndoing_4 : decode cX4_beUndoing 4 = .ok (.istore_n 2, 1) := by decide +kernel
theorem dX4_beUndoing_5 : decode cX4_beUndoing 5 = .ok (.aload_n 0, 1) := by decide +kernel
theorem dX4_beUndoing_6 : decode cX4_beUndoing 6 = .ok (.getfield 17, 3) := by decide +kernel
theorem dX4_beUndoing_9 : decode cX4_beUndoing 9 = .ok (.iload_n 2, 1) := by decide +kernel
theorem dX4_beUndoing_10 : decode cX4_beUndoing 10 = .ok (.iconst 0, 1) := by decide +kernel
theorem dX4_beUndoing_11 : decode cX4_beUndoing 11 = .ok (.iadd, 1) := by decide +kernel
theorem dX4_beUndoing_12 : decode cX4_beUndoing 12 = .ok (.iconst 2, 1) := by decide +kernel
theorem dX4_beUndoing_13 : decode cX4_beUndoing 13 = .ok (.iastore, 1) := by decide +kernel
theorem dX4_beUndoing_14 : decode cX4_beUndoing 14 = .ok (.aload_n 0, 1) := by decide +kernel
theorem dX4_beUndoing_15 : decode cX4_beUndoing 15 = .ok (.getfield 17, 3) := by decide +kernel
theorem dX4_beUndoing_18 : decode cX4_beUndoing 18 = .ok (.iload_n 2, 1) := by decide +kernel
theorem dX4_beUndoing_19 : decode cX4_beUndoing 19 = .ok (.iconst 4, 1) := by decide +kernel
theorem dX4_beUndoing_20 : decode cX4_beUndoing 20 = .ok (.iadd, 1) := by decide +kernel
theorem dX4_beUndoing_21 : decode cX4_beUndoing 21 = .ok (.iconst (-1), 1) := by decide +kernel
theorem dX4_beUndoing_22 : decode cX4_beUndoing 22 = .ok (.iastore, 1) := by decide +kernel
theorem dX4_beUndoing_23 : decode cX4_beUndoing 23 = .ok (.aload_n 0, 1) := by decide +kernel
theorem dX4_beUndoing_24 : decode cX4_beUndoing 24 = .ok (.getfield 17, 3) := by decide +kernel
theorem dX4_beUndoing_27 : decode cX4_beUndoing 27 = .ok (.iload_n 2, 1) := by decide +kernel
theorem dX4_beUndoing_28 : decode cX4_beUndoing 28 = .ok (.iconst 5, 1) := by decide +kernel
theorem dX4_beUndoing_29 : decode cX4_beUndoing 29 = .ok (.iadd, 1) := by decide +kernel
theorem dX4_beUndoing_30 : decode cX4_beUndoing 30 = .ok (.iconst (-1), 1) := by decide +kernel
theorem dX4_beUndoing_31 : decode cX4_beUndoing 31 = .ok (.iastore, 1) := by decide +kernel
theorem dX4_beUndoing_32 : decode cX4_beUndoing 32 = .ok (.aload_n 0, 1) := by decide +kernel
theorem dX4_beUndoing_33 : decode cX4_beUndoing 33 = .ok (.getfield 17, 3) := by decide +kernel
theorem dX4_beUndoing_36 : decode cX4_beUndoing 36 = .ok (.iload_n 2, 1) := by decide +kernel
theorem dX4_beUndoing_37 : decode cX4_beUndoing 37 = .ok (.bipush 7, 2) := by decide +kernel
theorem dX4_beUndoing_39 : decode cX4_beUndoing 39 = .ok (.iadd, 1) := by decide +kernel
theorem dX4_beUndoing_40 : decode cX4_beUndoing 40 = .ok (.iconst 0, 1) := by decide +kernel
theorem dX4_beUndoing_41 : decode cX4_beUndoing 41 = .ok (.iastore, 1) := by decide +kernel
theorem dX4_beUndoing_42 : decode cX4_beUndoing 42 = .ok (.return_, 1) := by decide +kernel
set_option maxRecDepth 20000 in
theorem ggX4_putBack_X4_levelAt : GoodIn wsX4_putBack wsX4_levelAt := goodIn_r _ [6, 1, 7, 8, 9, 10, 11, 12, 13, 14, 15, 16, 17, 18, 19, 20, 21] (by decide +kernel) (by decide +kernel)
set_option maxRecDepth 20000 in
theorem gX4_putBack_X4_levelAt : GoodIn wsX4_putBack (wsV RX4 183 RX4 yX4_levelAt wsX4_levelAt) := goodIn_app (goodIn_of _ (by decide +kernel)) ggX4_putBack_X4_levelAt
theorem dX4_putBack_0 : decode cX4_putBack 0 = .ok (.aload_n 0, 1) := by decide +kernel
theorem dX4_putBack_1 : decode cX4_putBack 1 = .ok (.getfield 17, 3) := by decide +kernel
theorem dX4_putBack_4 : decode cX4_putBack 4 = .ok (.aload_n 0, 1) := by decide +kernel
theorem dX4_putBack_5 : decode cX4_putBack 5 = .ok (.iload_n 1, 1) := by decide +kernel
theorem dX4_putBack_6 : decode cX4_putBack 6 = .ok (.invokevirtual 183, 3) := by decide +kernel
theorem dX4_putBack_9 : decode cX4_putBack 9 = .ok (.dup2, 1) := by decide +kernel
theorem dX4_putBack_10 : decode cX4_putBack 10 = .ok (.iaload, 1) := by decide +kernel
theorem dX4_putBack_11 : decode cX4_putBack 11 = .ok (.aload_n 0, 1) := by decide +kernel
theorem dX4_putBack_12 : decode cX4_putBack 12 = .ok (.getfield 17, 3) := by decide +kernel
theorem dX4_putBack_15 : decode cX4_putBack 15 = .ok (.iload_n 1, 1) := by decide +kernel
theorem dX4_putBack_16 : decode cX4_putBack 16 = .ok (.iconst 2, 1) := by decide +kernel
theorem dX4_putBack_17 : decode cX4_putBack 17 = .ok (.iadd, 1) := by decide +kernel
theorem dX4_putBack_18 : decode cX4_putBack 18 = .ok (.iaload, 1) := by decide +kernel
theorem dX4_putBack_19 : decode cX4_putBack 19 = .ok (.iadd, 1) := by decide +kernel
theorem dX4_putBack_20 : decode cX4_putBack 20 = .ok (.iastore, 1) := by decide +kernel
theorem dX4_putBack_21 : decode cX4_putBack 21 = .ok (.aload_n 0, 1) := by decide +kernel
theorem dX4_putBack_22 : decode cX4_putBack 22 = .ok (.getfield 17, 3) := by decide +kernel
theorem dX4_putBack_25 : decode cX4_putBack 25 = .ok (.iload_n 1, 1) := by decide +kernel
theorem dX4_putBack_26 : decode cX4_putBack 26 = .ok (.iconst 4, 1) := by decide +kernel
theorem dX4_putBack_27 : decode cX4_putBack 27 = .ok (.iadd, 1) := by decide +kernel
theorem dX4_putBack_28 : decode cX4_putBack 28 = .ok (.iconst 5, 1) := by decide +kernel
theorem dX4_putBack_29 : decode cX4_putBack 29 = .ok (.iastore, 1) := by decide +kernel
theorem dX4_putBack_30 : decode cX4_putBack 30 = .ok (.return_, 1) := by decide +kernel
set_option maxRecDepth 20000 in
theorem ggX4_undoOne_X4_lastDone : GoodIn wsX4_undoOne wsX4_lastDone := goodIn_r _ [6, 7, 8, 9, 5, 10, 1, 11, 12, 13, 14, 15, 16, 17, 18, 19, 20, 21, 34, 35, 36, 37, 38, 39, 40, 41, 42, 43, 44, 45, 46, 47, 48] (by decide +kernel) (by decide +kernel)
set_option maxRecDepth 20000 in
theorem gX4_undoOne_X4_lastDone : GoodIn wsX4_undoOne (wsV RX4 211 RX4 yX4_lastDone wsX4_lastDone) := goodIn_app (goodIn_of _ (by decide +kernel)) ggX4_undoOne_X4_lastDone
set_option maxRecDepth 20000 in
theorem ggX4_undoOne_X4_journeyAt : GoodIn wsX4_undoOne wsX4_journeyAt := goodIn_r _ [13] (by decide +kernel) (by decide +kernel)
set_option maxRecDepth 20000 in
theorem gX4_undoOne_X4_journeyAt : GoodIn wsX4_undoOne (va_wsS RX4 155 yX4_journeyAt wsX4_journeyAt) := goodIn_app (goodIn_of _ (by decide +kernel)) ggX4_undoOne_X4_journeyAt
set_option maxRecDepth 20000 in
theorem ggX4_undoOne_X4_rest : GoodIn wsX4_undoOne wsX4_rest := goodIn_r _ [25, 1, 11, 12, 5, 13, 34, 35, 36, 37, 38, 39, 40, 41, 42, 43, 44, 45, 46, 47, 48] (by decide +kernel) (by decide +kernel)
set_option maxRecDepth 20000 in
theorem gX4_undoOne_X4_rest : GoodIn wsX4_undoOne (wsV RX4 198 RX4 yX4_rest wsX4_rest) := goodIn_app (goodIn_of _ (by decide +kernel)) ggX4_undoOne_X4_rest
set_option maxRecDepth 20000 in
theorem ggX4_undoOne_X4_stepAt : GoodIn wsX4_undoOne wsX4_stepAt := goodIn_r _ [21, 7, 8, 9, 5, 10, 1, 11, 12, 13, 34, 35, 36, 37, 38, 39, 40, 41, 42, 43, 44, 45, 46, 47, 48] (by decide +kernel) (by decide +kernel)
set_option maxRecDepth 20000 in
theorem gX4_undoOne_X4_stepAt : GoodIn wsX4_undoOne (wsV RX4 161 RX4 yX4_stepAt wsX4_stepAt) := goodIn_app (goodIn_of _ (by decide +kernel)) ggX4_undoOne_X4_stepAt
set_option maxRecDepth 20000 in
theorem ggX4_undoOne_X4_putBack : GoodIn wsX4_undoOne wsX4_putBack := goodIn_r _ [29, 1, 30, 31, 32, 5, 33, 34, 35, 36, 37, 38, 39, 40, 41, 42, 43, 44, 45, 46, 47, 48] (by decide +kernel) (by decide +kernel)
set_option maxRecDepth 20000 in
theorem gX4_undoOne_X4_putBack : GoodIn wsX4_undoOne (wsV RX4 214 RX4 yX4_putBack wsX4_putBack) := goodIn_app (goodIn_of _ (by decide +kernel)) ggX4_undoOne_X4_putBack
theorem dX4_undoOne_0 : decode cX4_undoOne 0 = .ok (.aload_n 0, 1) := by decide +kernel
theorem dX4_undoOne_1 : decode cX4_undoOne 1 = .ok (.iload_n 1, 1) := by decide +kernel
theorem dX4_undoOne_2 : decode cX4_undoOne 2 = .ok (.invokevirtual 211, 3) := by decide +kernel
theorem dX4_undoOne_5 : decode cX4_undoOne 5 = .ok (.istore_n 2, 1) := by decide +kernel
theorem dX4_undoOne_6 : decode cX4_undoOne 6 = .ok (.iload_n 1, 1) := by decide +kernel
theorem dX4_undoOne_7 : decode cX4_undoOne 7 = .ok (.invokestatic 155, 3) := by decide +kernel
theorem dX4_undoOne_10 : decode cX4_undoOne 10 = .ok (.istore_n 3, 1) := by decide +kernel
theorem dX4_undoOne_11 : decode cX4_undoOne 11 = .ok (.iload_n 2, 1) := by decide +kernel
theorem dX4_undoOne_12 : decode cX4_undoOne 12 = .ok (.ifCond .ge 10, 3) := by decide +kernel
theorem dX4_undoOne_15 : decode cX4_undoOne 15 = .ok (.aload_n 0, 1) := by decide +kernel
theorem dX4_undoOne_16 : decode cX4_undoOne 16 = .ok (.iload_n 1, 1) := by decide +kernel
theorem dX4_undoOne_17 : decode cX4_undoOne 17 = .ok (.iconst 4, 1) := by decide +kernel
theorem dX4_undoOne_18 : decode cX4_undoOne 18 = .ok (.invokevirtual 198, 3) := by decide +kernel
theorem dX4_undoOne_21 : decode cX4_undoOne 21 = .ok (.return_, 1) := by decide +kernel
theorem dX4_undoOne_22 : decode cX4_undoOne 22 = .ok (.aload_n 0, 1) := by decide +kernel
theorem dX4_undoOne_23 : decode cX4_undoOne 23 = .ok (.iload_n 1, 1) := by decide +kernel
theorem dX4_undoOne_24 : decode cX4_undoOne 24 = .ok (.iload_n 2, 1) := by decide +kernel
theorem dX4_undoOne_25 : decode cX4_undoOne 25 = .ok (.invokevirtual 161, 3) := by decide +kernel
theorem dX4_undoOne_28 : decode cX4_undoOne 28 = .ok (.istore 4, 2) := by decide +kernel
theorem dX4_undoOne_30 : decode cX4_undoOne 30 = .ok (.aload_n 0, 1) := by decide +kernel
theorem dX4_undoOne_31 : decode cX4_undoOne 31 = .ok (.getfield 17, 3) := by decide +kernel
theorem dX4_undoOne_34 : decode cX4_undoOne 34 = .ok (.iload 4, 2) := by decide +kernel
theorem dX4_undoOne_36 : decode cX4_undoOne 36 = .ok (.iconst 5, 1) := by decide +kernel
theorem dX4_undoOne_37 : decode cX4_undoOne 37 = .ok (.iadd, 1) := by decide +kernel
theorem dX4_undoOne_38 : decode cX4_undoOne 38 = .ok (.iaload, 1) := by decide +kernel
theorem dX4_undoOne_39 : decode cX4_undoOne 39 = .ok (.ifCond .ne 20, 3) := by decide +kernel
theorem dX4_undoOne_42 : decode cX4_undoOne 42 = .ok (.aload_n 0, 1) := by decide +kernel
theorem dX4_undoOne_43 : decode cX4_undoOne 43 = .ok (.iload 4, 2) := by decide +kernel
theorem dX4_undoOne_45 : decode cX4_undoOne 45 = .ok (.invokevirtual 214, 3) := by decide +kernel
theorem dX4_undoOne_48 : decode cX4_undoOne 48 = .ok (.aload_n 0, 1) := by decide +kernel
theorem dX4_undoOne_49 : decode cX4_undoOne 49 = .ok (.getfield 17, 3) := by decide +kernel
theorem dX4_undoOne_52 : decode cX4_undoOne 52 = .ok (.iload_n 3, 1) := by decide +kernel
theorem dX4_undoOne_53 : decode cX4_undoOne 53 = .ok (.bipush 7, 2) := by decide +kernel
theorem dX4_undoOne_55 : decode cX4_undoOne 55 = .ok (.iadd, 1) := by decide +kernel
theorem dX4_undoOne_56 : decode cX4_undoOne 56 = .ok (.iconst 0, 1) := by decide +kernel
theorem dX4_undoOne_57 : decode cX4_undoOne 57 = .ok (.iastore, 1) := by decide +kernel
theorem dX4_undoOne_58 : decode cX4_undoOne 58 = .ok (.return_, 1) := by decide +kernel
theorem dX4_undoOne_59 : decode cX4_undoOne 59 = .ok (.aload_n 0, 1) := by decide +kernel
theorem dX4_undoOne_60 : decode cX4_undoOne 60 = .ok (.getfield 17, 3) := by decide +kernel
theorem dX4_undoOne_63 : decode cX4_undoOne 63 = .ok (.iload 4, 2) := by decide +kernel
theorem dX4_undoOne_65 : decode cX4_undoOne 65 = .ok (.iconst 5, 1) := by decide +kernel
theorem dX4_undoOne_66 : decode cX4_undoOne 66 = .ok (.iadd, 1) := by decide +kernel
theorem dX4_undoOne_67 : decode cX4_undoOne 67 = .ok (.dup2, 1) := by decide +kernel
theorem dX4_undoOne_68 : decode cX4_undoOne 68 = .ok (.iaload, 1) := by decide +kernel
theorem dX4_undoOne_69 : decode cX4_undoOne 69 = .ok (.iconst 1, 1) := by decide +kernel
theorem dX4_undoOne_70 : decode cX4_undoOne 70 = .ok (.isub, 1) := by decide +kernel
theorem dX4_undoOne_71 : decode cX4_undoOne 71 = .ok (.iastore, 1) := by decide +kernel
theorem dX4_undoOne_72 : decode cX4_undoOne 72 = .ok (.aload_n 0, 1) := by decide +kernel
theorem dX4_undoOne_73 : decode cX4_undoOne 73 = .ok (.getfield 17, 3) := by decide +kernel
theorem dX4_undoOne_76 : decode cX4_undoOne 76 = .ok (.bipush 6, 2) := by decide +kernel
theorem dX4_undoOne_78 : decode cX4_undoOne 78 = .ok (.dup2, 1) := by decide +kernel
theorem dX4_undoOne_79 : decode cX4_undoOne 79 = .ok (.iaload, 1) := by decide +kernel
theorem dX4_undoOne_80 : decode cX4_undoOne 80 = .ok (.iconst 1, 1) := by decide +kernel
theorem dX4_undoOne_81 : decode cX4_undoOne 81 = .ok (.iadd, 1) := by decide +kernel
theorem dX4_undoOne_82 : decode cX4_undoOne 82 = .ok (.iastore, 1) := by decide +kernel
theorem dX4_undoOne_83 : decode cX4_undoOne 83 = .ok (.aload_n 0, 1) := by decide +kernel
theorem dX4_undoOne_84 : decode cX4_undoOne 84 = .ok (.getfield 17, 3) := by decide +kernel
theorem dX4_undoOne_87 : decode cX4_undoOne 87 = .ok (.iload_n 3, 1) := by decide +kernel
theorem dX4_undoOne_88 : decode cX4_undoOne 88 = .ok (.bipush 7, 2) := by decide +kernel
theorem dX4_undoOne_90 : decode cX4_undoOne 90 = .ok (.iadd, 1) := by decide +kernel
theorem dX4_undoOne_91 : decode cX4_undoOne 91 = .ok (.dup2, 1) := by decide +kernel
theorem dX4_undoOne_92 : decode cX4_undoOne 92 = .ok (.iaload, 1) := by decide +kernel
theorem dX4_undoOne_93 : decode cX4_undoOne 93 = .ok (.iconst 1, 1) := by decide +kernel
theorem dX4_undoOne_94 : decode cX4_undoOne 94 = .ok (.iadd, 1) := by decide +kernel
theorem dX4_undoOne_95 : decode cX4_undoOne 95 = .ok (.iastore, 1) := by decide +kernel
theorem dX4_undoOne_96 : decode cX4_undoOne 96 = .ok (.aload_n 0, 1) := by decide +kernel
theorem dX4_undoOne_97 : decode cX4_undoOne 97 = .ok (.getfield 17, 3) := by decide +kernel
theorem dX4_undoOne_100 : decode cX4_undoOne 100 = .ok (.iload_n 3, 1) := by decide +kernel
theorem dX4_undoOne_101 : decode cX4_undoOne 101 = .ok (.bipush 7, 2) := by decide +kernel
theorem dX4_undoOne_103 : decode cX4_undoOne 103 = .ok (.iadd, 1) := by decide +kernel
theorem dX4_undoOne_104 : decode cX4_undoOne 104 = .ok (.iaload, 1) := by decide +kernel
theorem dX4_undoOne_105 : decode cX4_undoOne 105 = .ok (.aload_n 0, 1) := by decide +kernel
theorem dX4_undoOne_106 : decode cX4_undoOne 106 = .ok (.getfield 17, 3) := by decide +kernel
theorem dX4_undoOne_109 : decode cX4_undoOne 109 = .ok (.iconst 5, 1) := by decide +kernel
theorem dX4_undoOne_110 : decode cX4_undoOne 110 = .ok (.iaload, 1) := by decide +kernel
theorem dX4_undoOne_111 : decode cX4_undoOne 111 = .ok (.if_icmp .ne 9, 3) := by decide +kernel
theorem dX4_undoOne_114 : decode cX4_undoOne 114 = .ok (.aload_n 0, 1) := by decide +kernel
theorem dX4_undoOne_115 : decode cX4_undoOne 115 = .ok (.iload_n 1, 1) := by decide +kernel
theorem dX4_undoOne_116 : decode cX4_undoOne 116 = .ok (.iconst 5, 1) := by decide +kernel
theorem dX4_undoOne_117 : decode cX4_undoOne 117 = .ok (.invokevirtual 198, 3) := by decide +kernel
theorem dX4_undoOne_120 : decode cX4_undoOne 120 = .ok (.return_, 1) := by decide +kernel
set_option maxRecDepth 20000 in
theorem ggX4_tick_X4_journeyAt : GoodIn wsX4_tick wsX4_journeyAt := goodIn_r _ [5] (by decide +kernel) (by decide +kernel)
set_option maxRecDepth 20000 in
theorem gX4_tick_X4_journeyAt : GoodIn wsX4_tick (va_wsS RX4 155 yX4_journeyAt wsX4_journeyAt) := goodIn_app (goodIn_of _ (by decide +kernel)) ggX4_tick_X4_journeyAt
set_option maxRecDepth 20000 in
theorem ggX4_tick_X4_ofJourney : GoodIn wsX4_tick wsX4_ofJourney := goodIn_r _ [9, 1, 2, 3, 4, 5, 90, 91, 92, 93, 94, 95, 96, 97, 98, 99, 100, 101, 102, 103, 104] (by decide +kernel) (by decide +kernel)
set_option maxRecDepth 20000 in
theorem gX4_tick_X4_ofJourney : GoodIn wsX4_tick (wsV RX4 158 RX4 yX4_ofJourney wsX4_ofJourney) := goodIn_app (goodIn_of _ (by decide +kernel)) ggX4_tick_X4_ofJourney
set_option maxRecDepth 20000 in
theorem ggX4_tick_X4_present : GoodIn wsX4_tick wsX4_present := goodIn_r _ [13, 1, 2, 3, 4, 5, 6, 7, 8, 9, 14, 15, 16, 17, 18, 19, 20, 21, 90, 91, 92, 93, 94, 95, 96, 97, 98, 99, 100, 101, 102, 103, 104] (by decide +kernel) (by decide +kernel)
set_option maxRecDepth 20000 in
theorem gX4_tick_X4_present : GoodIn wsX4_tick (wsV RX4 201 RX4 yX4_present wsX4_present) := goodIn_app (goodIn_of _ (by decide +kernel)) ggX4_tick_X4_present
set_option maxRecDepth 20000 in
theorem ggX4_tick_X4_goOn : GoodIn wsX4_tick wsX4_goOn := goodIn_r _ [25, 1, 6, 7, 8, 4, 9, 2, 3, 5, 26, 27, 28, 29, 14, 15, 16, 17, 30, 31, 32, 33, 34, 35, 36, 37, 38, 39, 40, 41, 42, 43, 44, 45, 46, 47, 48, 49, 50, 51, 52, 53, 54, 55, 56, 57, 58, 59, 60, 61, 62, 63, 64, 65, 66, 67, 68, 69, 10, 11, 12, 13, 18, 19, 20, 21, 70, 71, 72, 73, 74, 75, 76, 77, 90, 91, 92, 93, 94, 95, 96, 97, 98, 99, 100, 101, 102, 103, 104] (by decide +kernel) (by decide +kernel)
set_option maxRecDepth 20000 in
theorem gX4_tick_X4_goOn : GoodIn wsX4_tick (wsV RX4 217 RX4 yX4_goOn wsX4_goOn) := goodIn_app (goodIn_of _ (by decide +kernel)) ggX4_tick_X4_goOn
set_option maxRecDepth 20000 in
theorem ggX4_tick_X4_undoOne : GoodIn wsX4_tick wsX4_undoOne := goodIn_r _ [81, 1, 82, 83, 84, 4, 85, 6, 7, 8, 9, 2, 3, 5, 46, 47, 48, 49, 14, 15, 16, 17, 66, 67, 68, 69, 86, 87, 88, 89, 54, 55, 56, 57, 90, 91, 92, 93, 94, 95, 96, 97, 98, 99, 100, 101, 102, 103, 104] (by decide +kernel) (by decide +kernel)
set_option maxRecDepth 20000 in
theorem gX4_tick_X4_undoOne : GoodIn wsX4_tick (wsV RX4 220 RX4 yX4_undoOne wsX4_undoOne) := goodIn_app (goodIn_of _ (by decide +kernel)) ggX4_tick_X4_undoOne
theorem dX4_tick_0 : decode cX4_tick 0 = .ok (.iconst 0, 1) := by decide +kernel
theorem dX4_tick_1 : decode cX4_tick 1 = .ok (.istore_n 1, 1) := by decide +kernel
theorem dX4_tick_2 : decode cX4_tick 2 = .ok (.iload_n 1, 1) := by decide +kernel
theorem dX4_tick_3 : decode cX4_tick 3 = .ok (.aload_n 0, 1) := by decide +kernel
theorem dX4_tick_4 : decode cX4_tick 4 = .ok (.getfield 17, 3) := by decide +kernel
theorem dX4_tick_7 : decode cX4_tick 7 = .ok (.iconst 2, 1) := by decide +kernel
theorem dX4_tick_8 : decode cX4_tick 8 = .ok (.iaload, 1) := by decide +kernel
theorem dX4_tick_9 : decode cX4_tick 9 = .ok (.if_icmp .ge 72, 3) := by decide +kernel
theorem dX4_tick_12 : decode cX4_tick 12 = .ok (.aload_n 0, 1) := by decide +kernel
theorem dX4_tick_13 : decode cX4_tick 13 = .ok (.getfield 17, 3) := by decide +kernel
theorem dX4_tick_16 : decode cX4_tick 16 = .ok (.iload_n 1, 1) := by decide +kernel
theorem dX4_tick_17 : decode cX4_tick 17 = .ok (.invokestatic 155, 3) := by decide +kernel
theorem dX4_tick_20 : decode cX4_tick 20 = .ok (.bipush 8, 2) := by decide +kernel
theorem dX4_tick_22 : decode cX4_tick 22 = .ok (.iadd, 1) := by decide +kernel
theorem dX4_tick_23 : decode cX4_tick 23 = .ok (.aload_n 0, 1) := by decide +kernel
theorem dX4_tick_24 : decode cX4_tick 24 = .ok (.iload_n 1, 1) := by decide +kernel
theorem dX4_tick_25 : decode cX4_tick 25 = .ok (.iconst 0, 1) := by decide +kernel
theorem dX4_tick_26 : decode cX4_tick 26 = .ok (.invokevirtual 158, 3) := by decide +kernel
theorem dX4_tick_29 : decode cX4_tick 29 = .ok (.iastore, 1) := by decide +kernel
theorem dX4_tick_30 : decode cX4_tick 30 = .ok (.aload_n 0, 1) := by decide +kernel
theorem dX4_tick_31 : decode cX4_tick 31 = .ok (.iload_n 1, 1) := by decide +kernel
theorem dX4_tick_32 : decode cX4_tick 32 = .ok (.iconst 0, 1) := by decide +kernel
theorem dX4_tick_33 : decode cX4_tick 33 = .ok (.invokevirtual 158, 3) := by decide +kernel
theorem dX4_tick_36 : decode cX4_tick 36 = .ok (.ifCond .ne 39, 3) := by decide +kernel
theorem dX4_tick_39 : decode cX4_tick 39 = .ok (.aload_n 0, 1) := by decide +kernel
theorem dX4_tick_40 : decode cX4_tick 40 = .ok (.iload_n 1, 1) := by decide +kernel
theorem dX4_tick_41 : decode cX4_tick 41 = .ok (.iconst 1, 1) := by decide +kernel
theorem dX4_tick_42 : decode cX4_tick 42 = .ok (.invokevirtual 158, 3) := by decide +kernel
theorem dX4_tick_45 : decode cX4_tick 45 = .ok (.aload_n 0, 1) := by decide +kernel
theorem dX4_tick_46 : decode cX4_tick 46 = .ok (.getfield 17, 3) := by decide +kernel
theorem dX4_tick_49 : decode cX4_tick 49 = .ok (.iconst 0, 1) := by decide +kernel
theorem dX4_tick_50 : decode cX4_tick 50 = .ok (.iaload, 1) := by decide +kernel
theorem dX4_tick_51 : decode cX4_tick 51 = .ok (.if_icmp .eq 6, 3) := by decide +kernel
theorem dX4_tick_54 : decode cX4_tick 54 = .ok (.goto 21, 3) := by decide +kernel
theorem dX4_tick_57 : decode cX4_tick 57 = .ok (.aload_n 0, 1) := by decide +kernel
theorem dX4_tick_58 : decode cX4_tick 58 = .ok (.getfield 17, 3) := by decide +kernel
theorem dX4_tick_61 : decode cX4_tick 61 = .ok (.iload_n 1, 1) := by decide +kernel
theorem dX4_tick_62 : decode cX4_tick 62 = .ok (.invokestatic 155, 3) := by decide +kernel
theorem dX4_tick_65 : decode cX4_tick 65 = .ok (.iconst 0, 1) := by decide +kernel
theorem dX4_tick_66 : decode cX4_tick 66 = .ok (.iadd, 1) := by decide +kernel
theorem dX4_tick_67 : decode cX4_tick 67 = .ok (.iconst 1, 1) := by decide +kernel
theorem dX4_tick_68 : decode cX4_tick 68 = .ok (.iastore, 1) := by decide +kernel
theorem dX4_tick_69 : decode cX4_tick 69 = .ok (.aload_n 0, 1) := by decide +kernel
theorem dX4_tick_70 : decode cX4_tick 70 = .ok (.iload_n 1, 1) := by decide +kernel
theorem dX4_tick_71 : decode cX4_tick 71 = .ok (.iconst 0, 1) := by decide +kernel
theorem dX4_tick_72 : decode cX4_tick 72 = .ok (.invokevirtual 201, 3) := by decide +kernel
theorem dX4_tick_75 : decode cX4_tick 75 = .ok (.iinc 1 1, 3) := by decide +kernel
theorem dX4_tick_78 : decode cX4_tick 78 = .ok (.goto (-76), 3) := by decide +kernel
theorem dX4_tick_81 : decode cX4_tick 81 = .ok (.iconst 0, 1) := by decide +kernel
theorem dX4_tick_82 : decode cX4_tick 82 = .ok (.istore_n 1, 1) := by decide +kernel
theorem dX4_tick_83 : decode cX4_tick 83 = .ok (.iload_n 1, 1) := by decide +kernel
theorem dX4_tick_84 : decode cX4_tick 84 = .ok (.aload_n 0, 1) := by decide +kernel
theorem dX4_tick_85 : decode cX4_tick 85 = .ok (.getfield 17, 3) := by decide +kernel
theorem dX4_tick_88 : decode cX4_tick 88 = .ok (.iconst 2, 1) := by decide +kernel
theorem dX4_tick_89 : decode cX4_tick 89 = .ok (.iaload, 1) := by decide +kernel
theorem dX4_tick_90 : decode cX4_tick 90 = .ok (.if_icmp .ge 24, 3) := by decide +kernel
theorem dX4_tick_93 : decode cX4_tick 93 = .ok (.aload_n 0, 1) := by decide +kernel
theorem dX4_tick_94 : decode cX4_tick 94 = .ok (.iload_n 1, 1) := by decide +kernel
theorem dX4_tick_95 : decode cX4_tick 95 = .ok (.iconst 0, 1) := by decide +kernel
theorem dX4_tick_96 : decode cX4_tick 96 = .ok (.invokevirtual 158, 3) := by decide +kernel
theorem dX4_tick_99 : decode cX4_tick 99 = .ok (.iconst 1, 1) := by decide +kernel
theorem dX4_tick_100 : decode cX4_tick 100 = .ok (.if_icmp .ne 8, 3) := by decide +kernel
theorem dX4_tick_103 : decode cX4_tick 103 = .ok (.aload_n 0, 1) := by decide +kernel
theorem dX4_tick_104 : decode cX4_tick 104 = .ok (.iload_n 1, 1) := by decide +kernel
theorem dX4_tick_105 : decode cX4_tick 105 = .ok (.invokevirtual 217, 3) := by decide +kernel
theorem dX4_tick_108 : decode cX4_tick 108 = .ok (.iinc 1 1, 3) := by decide +kernel
theorem dX4_tick_111 : decode cX4_tick 111 = .ok (.goto (-28), 3) := by decide +kernel
theorem dX4_tick_114 : decode cX4_tick 114 = .ok (.iconst 0, 1) := by decide +kernel
theorem dX4_tick_115 : decode cX4_tick 115 = .ok (.istore_n 1, 1) := by decide +kernel
theorem dX4_tick_116 : decode cX4_tick 116 = .ok (.iload_n 1, 1) := by decide +kernel
theorem dX4_tick_117 : decode cX4_tick 117 = .ok (.aload_n 0, 1) := by decide +kernel
theorem dX4_tick_118 : decode cX4_tick 118 = .ok (.getfield 17, 3) := by decide +kernel
theorem dX4_tick_121 : decode cX4_tick 121 = .ok (.iconst 2, 1) := by decide +kernel
theorem dX4_tick_122 : decode cX4_tick 122 = .ok (.iaload, 1) := by decide +kernel
theorem dX4_tick_123 : decode cX4_tick 123 = .ok (.if_icmp .ge 25, 3) := by decide +kernel
theorem dX4_tick_126 : decode cX4_tick 126 = .ok (.aload_n 0, 1) := by decide +kernel
theorem dX4_tick_127 : decode cX4_tick 127 = .ok (.iload_n 1, 1) := by decide +kernel
theorem dX4_tick_128 : decode cX4_tick 128 = .ok (.bipush 8, 2) := by decide +kernel
theorem dX4_tick_130 : decode cX4_tick 130 = .ok (.invokevirtual 158, 3) := by decide +kernel
theorem dX4_tick_133 : decode cX4_tick 133 = .ok (.iconst 2, 1) := by decide +kernel
theorem dX4_tick_134 : decode cX4_tick 134 = .ok (.if_icmp .ne 8, 3) := by decide +kernel
theorem dX4_tick_137 : decode cX4_tick 137 = .ok (.aload_n 0, 1) := by decide +kernel
theorem dX4_tick_138 : decode cX4_tick 138 = .ok (.iload_n 1, 1) := by decide +kernel
theorem dX4_tick_139 : decode cX4_tick 139 = .ok (.invokevirtual 220, 3) := by decide +kernel
theorem dX4_tick_142 : decode cX4_tick 142 = .ok (.iinc 1 1, 3) := by decide +kernel
theorem dX4_tick_145 : decode cX4_tick 145 = .ok (.goto (-29), 3) := by decide +kernel
theorem dX4_tick_148 : decode cX4_tick 148 = .ok (.aload_n 0, 1) := by decide +kernel
theorem dX4_tick_149 : decode cX4_tick 149 = .ok (.getfield 17, 3) := by decide +kernel
theorem dX4_tick_152 : decode cX4_tick 152 = .ok (.iconst 0, 1) := by decide +kernel
theorem dX4_tick_153 : decode cX4_tick 153 = .ok (.dup2, 1) := by decide +kernel
theorem dX4_tick_154 : decode cX4_tick 154 = .ok (.iaload, 1) := by decide +kernel
theorem dX4_tick_155 : decode cX4_tick 155 = .ok (.iconst 1, 1) := by decide +kernel
theorem dX4_tick_156 : decode cX4_tick 156 = .ok (.iadd, 1) := by decide +kernel
theorem dX4_tick_157 : decode cX4_tick 157 = .ok (.iastore, 1) := by decide +kernel
theorem dX4_tick_158 : decode cX4_tick 158 = .ok (.return_, 1) := by decide +kernel
set_option maxRecDepth 20000 in
theorem ggX4_rests_X4_ofJourney : GoodIn wsX4_rests wsX4_ofJourney := goodIn_r _ [5, 6, 7, 8, 4, 9, 10, 11, 12, 13, 14, 15, 16, 17, 18, 19, 20, 21, 22, 23, 24] (by decide +kernel) (by decide +kernel)
set_option maxRecDepth 20000 in
theorem gX4_rests_X4_ofJourney : GoodIn wsX4_rests (wsV RX4 158 RX4 yX4_ofJourney wsX4_ofJourney) := goodIn_app (goodIn_of _ (by decide +kernel)) ggX4_rests_X4_ofJourney
theorem dX4_rests_0 : decode cX4_rests 0 = .ok (.aload_n 0, 1) := by decide +kernel
theorem dX4_rests_1 : decode cX4_rests 1 = .ok (.iload_n 1, 1) := by decide +kernel
theorem dX4_rests_2 : decode cX4_rests 2 = .ok (.iconst 0, 1) := by decide +kernel
theorem dX4_rests_3 : decode cX4_rests 3 = .ok (.invokevirtual 158, 3) := by decide +kernel
theorem dX4_rests_6 : decode cX4_rests 6 = .ok (.iconst 3, 1) := by decide +kernel
theorem dX4_rests_7 : decode cX4_rests 7 = .ok (.if_icmp .lt 7, 3) := by decide +kernel
theorem dX4_rests_10 : decode cX4_rests 10 = .ok (.iconst 1, 1) := by decide +kernel
theorem dX4_rests_11 : decode cX4_rests 11 = .ok (.goto 4, 3) := by decide +kernel
theorem dX4_rests_14 : decode cX4_rests 14 = .ok (.iconst 0, 1) := by decide +kernel
theorem dX4_rests_15 : decode cX4_rests 15 = .ok (.ireturn, 1) := by decide +kernel
set_option maxRecDepth 20000 in
theorem ggX4_noStock_X4_in : GoodIn wsX4_noStock wsX4_in := goodIn_r _ [5] (by decide +kernel) (by decide +kernel)
set_option maxRecDepth 20000 in
theorem gX4_noStock_X4_in : GoodIn wsX4_noStock (va_wsS RX4 57 yX4_in wsX4_in) := goodIn_app (goodIn_of _ (by decide +kernel)) ggX4_noStock_X4_in
set_option maxRecDepth 20000 in
theorem ggX4_noStock_X4_fails : GoodIn wsX4_noStock wsX4_fails := goodIn_r _ [9, 10, 11, 12, 13, 14, 15, 16, 17, 18, 19, 20, 21, 22, 23, 24, 25] (by decide +kernel) (by decide +kernel)
set_option maxRecDepth 20000 in
theorem gX4_noStock_X4_fails : GoodIn wsX4_noStock (wsV RX4 139 RX4 yX4_fails wsX4_fails) := goodIn_app (goodIn_of _ (by decide +kernel)) ggX4_noStock_X4_fails
theorem dX4_noStock_0 : decode cX4_noStock 0 = .ok (.aload_n 0, 1) := by decide +kernel
theorem dX4_noStock_1 : decode cX4_noStock 1 = .ok (.iload_n 1, 1) := by decide +kernel
theorem dX4_noStock_2 : decode cX4_noStock 2 = .ok (.iconst 0, 1) := by decide +kernel
theorem dX4_noStock_3 : decode cX4_noStock 3 = .ok (.aload_n 0, 1) := by decide +kernel
theorem dX4_noStock_4 : decode cX4_noStock 4 = .ok (.getfield 17, 3) := by decide +kernel
theorem dX4_noStock_7 : decode cX4_noStock 7 = .ok (.iconst 1, 1) := by decide +kernel
theorem dX4_noStock_8 : decode cX4_noStock 8 = .ok (.iaload, 1) := by decide +kernel
theorem dX4_noStock_9 : decode cX4_noStock 9 = .ok (.iconst 1, 1) := by decide +kernel
theorem dX4_noStock_10 : decode cX4_noStock 10 = .ok (.isub, 1) := by decide +kernel
theorem dX4_noStock_11 : decode cX4_noStock 11 = .ok (.invokestatic 57, 3) := by decide +kernel
theorem dX4_noStock_14 : decode cX4_noStock 14 = .ok (.ifCond .ne 7, 3) := by decide +kernel
theorem dX4_noStock_17 : decode cX4_noStock 17 = .ok (.iconst 1, 1) := by decide +kernel
theorem dX4_noStock_18 : decode cX4_noStock 18 = .ok (.goto 4, 3) := by decide +kernel
theorem dX4_noStock_21 : decode cX4_noStock 21 = .ok (.iconst 0, 1) := by decide +kernel
theorem dX4_noStock_22 : decode cX4_noStock 22 = .ok (.iconst 1, 1) := by decide +kernel
theorem dX4_noStock_23 : decode cX4_noStock 23 = .ok (.invokevirtual 139, 3) := by decide +kernel
theorem dX4_noStock_26 : decode cX4_noStock 26 = .ok (.ireturn, 1) := by decide +kernel
set_option maxRecDepth 20000 in
theorem ggX4_noJourney_X4_in : GoodIn wsX4_noJourney wsX4_in := goodIn_r _ [5] (by decide +kernel) (by decide +kernel)
set_option maxRecDepth 20000 in
theorem gX4_noJourney_X4_in : GoodIn wsX4_noJourney (va_wsS RX4 57 yX4_in wsX4_in) := goodIn_app (goodIn_of _ (by decide +kernel)) ggX4_noJourney_X4_in
set_option maxRecDepth 20000 in
theorem ggX4_noJourney_X4_fails : GoodIn wsX4_noJourney wsX4_fails := goodIn_r _ [9, 10, 11, 12, 13, 14, 15, 16, 17, 18, 19, 20, 21, 22, 23, 24, 25] (by decide +kernel) (by decide +kernel)
set_option maxRecDepth 20000 in
theorem gX4_noJourney_X4_fails : GoodIn wsX4_noJourney (wsV RX4 139 RX4 yX4_fails wsX4_fails) := goodIn_app (goodIn_of _ (by decide +kernel)) ggX4_noJourney_X4_fails
theorem dX4_noJourney_0 : decode cX4_noJourney 0 = .ok (.aload_n 0, 1) := by decide +kernel
theorem dX4_noJourney_1 : decode cX4_noJourney 1 = .ok (.iload_n 1, 1) := by decide +kernel
theorem dX4_noJourney_2 : decode cX4_noJourney 2 = .ok (.iconst 0, 1) := by decide +kernel
theorem dX4_noJourney_3 : decode cX4_noJourney 3 = .ok (.aload_n 0, 1) := by decide +kernel
theorem dX4_noJourney_4 : decode cX4_noJourney 4 = .ok (.getfield 17, 3) := by decide +kernel
theorem dX4_noJourney_7 : decode cX4_noJourney 7 = .ok (.iconst 2, 1) := by decide +kernel
theorem dX4_noJourney_8 : decode cX4_noJourney 8 = .ok (.iaload, 1) := by decide +kernel
theorem dX4_noJourney_9 : decode cX4_noJourney 9 = .ok (.iconst 1, 1) := by decide +kernel
theorem dX4_noJourney_10 : decode cX4_noJourney 10 = .ok (.isub, 1) := by decide +kernel
theorem dX4_noJourney_11 : decode cX4_noJourney 11 = .ok (.invokestatic 57, 3) := by decide +kernel
theorem dX4_noJourney_14 : decode cX4_noJourney 14 = .ok (.ifCond .ne 7, 3) := by decide +kernel
theorem dX4_noJourney_17 : decode cX4_noJourney 17 = .ok (.iconst 1, 1) := by decide +kernel
theorem dX4_noJourney_18 : decode cX4_noJourney 18 = .ok (.goto 4, 3) := by decide +kernel
theorem dX4_noJourney_21 : decode cX4_noJourney 21 = .ok (.iconst 0, 1) := by decide +kernel
theorem dX4_noJourney_22 : decode cX4_noJourney 22 = .ok (.iconst 1, 1) := by decide +kernel
theorem dX4_noJourney_23 : decode cX4_noJourney 23 = .ok (.invokevirtual 139, 3) := by decide +kernel
theorem dX4_noJourney_26 : decode cX4_noJourney 26 = .ok (.ireturn, 1) := by decide +kernel
set_option maxRecDepth 20000 in
theorem ggX4_countOf_X4_ofJourney : GoodIn wsX4_countOf wsX4_ofJourney := goodIn_r _ [6, 1, 7, 8, 5, 9, 10, 11, 12, 13, 14, 15, 16, 17, 18, 19, 20, 21, 22, 23, 24] (by decide +kernel) (by decide +kernel)
set_option maxRecDepth 20000 in
theorem gX4_countOf_X4_ofJourney : GoodIn wsX4_countOf (wsV RX4 158 RX4 yX4_ofJourney wsX4_ofJourney) := goodIn_app (goodIn_of _ (by decide +kernel)) ggX4_countOf_X4_ofJourney
theorem dX4_countOf_0 : decode cX4_countOf 0 = .ok (.iconst 0, 1) := by decide +kernel
theorem dX4_countOf_1 : decode cX4_countOf 1 = .ok (.istore_n 2, 1) := by decide +kernel
theorem dX4_countOf_2 : decode cX4_countOf 2 = .ok (.iconst 0, 1) := by decide +kernel
theorem dX4_countOf_3 : decode cX4_countOf 3 = .ok (.istore_n 3, 1) := by decide +kernel
theorem dX4_countOf_4 : decode cX4_countOf 4 = .ok (.iload_n 3, 1) := by decide +kernel
theorem dX4_countOf_5 : decode cX4_countOf 5 = .ok (.aload_n 0, 1) := by decide +kernel
theorem dX4_countOf_6 : decode cX4_countOf 6 = .ok (.getfield 17, 3) := by decide +kernel
theorem dX4_countOf_9 : decode cX4_countOf 9 = .ok (.iconst 2, 1) := by decide +kernel
theorem dX4_countOf_10 : decode cX4_countOf 10 = .ok (.iaload, 1) := by decide +kernel
theorem dX4_countOf_11 : decode cX4_countOf 11 = .ok (.if_icmp .ge 27, 3) := by decide +kernel
theorem dX4_countOf_14 : decode cX4_countOf 14 = .ok (.iload_n 2, 1) := by decide +kernel
theorem dX4_countOf_15 : decode cX4_countOf 15 = .ok (.aload_n 0, 1) := by decide +kernel
theorem dX4_countOf_16 : decode cX4_countOf 16 = .ok (.iload_n 3, 1) := by decide +kernel
theorem dX4_countOf_17 : decode cX4_countOf 17 = .ok (.iconst 0, 1) := by decide +kernel
theorem dX4_countOf_18 : decode cX4_countOf 18 = .ok (.invokevirtual 158, 3) := by decide +kernel
theorem dX4_countOf_21 : decode cX4_countOf 21 = .ok (.iload_n 1, 1) := by decide +kernel
theorem dX4_countOf_22 : decode cX4_countOf 22 = .ok (.if_icmp .ne 7, 3) := by decide +kernel
theorem dX4_countOf_25 : decode cX4_countOf 25 = .ok (.iconst 1, 1) := by decide +kernel
theorem dX4_countOf_26 : decode cX4_countOf 26 = .ok (.goto 4, 3) := by decide +kernel
theorem dX4_countOf_29 : decode cX4_countOf 29 = .ok (.iconst 0, 1) := by decide +kernel
theorem dX4_countOf_30 : decode cX4_countOf 30 = .ok (.iadd, 1) := by decide +kernel
theorem dX4_countOf_31 : decode cX4_countOf 31 = .ok (.istore_n 2, 1) := by decide +kernel
theorem dX4_countOf_32 : decode cX4_countOf 32 = .ok (.iinc 3 1, 3) := by decide +kernel
theorem dX4_countOf_35 : decode cX4_countOf 35 = .ok (.goto (-31), 3) := by decide +kernel
theorem dX4_countOf_38 : decode cX4_countOf 38 = .ok (.iload_n 2, 1) := by decide +kernel
theorem dX4_countOf_39 : decode cX4_countOf 39 = .ok (.ireturn, 1) := by decide +kernel
set_option maxRecDepth 20000 in
theorem ggX4_told_X4_countOf : GoodIn wsX4_told wsX4_countOf := goodIn_r _ [6, 1, 7, 8, 9, 5, 10, 11, 12, 13, 14, 15, 16, 17, 18, 19, 20, 21, 22, 23, 24, 25, 26, 27, 28] (by decide +kernel) (by decide +kernel)
set_option maxRecDepth 20000 in
theorem gX4_told_X4_countOf : GoodIn wsX4_told (wsV RX4 223 RX4 yX4_countOf wsX4_countOf) := goodIn_app (goodIn_of _ (by decide +kernel)) ggX4_told_X4_countOf
theorem dX4_told_0 : decode cX4_told 0 = .ok (.iload_n 1, 1) := by decide +kernel
theorem dX4_told_1 : decode cX4_told 1 = .ok (.bipush 6, 2) := by decide +kernel
theorem dX4_told_3 : decode cX4_told 3 = .ok (.if_icmp .ge 12, 3) := by decide +kernel
theorem dX4_told_6 : decode cX4_told 6 = .ok (.aload_n 0, 1) := by decide +kernel
theorem dX4_told_7 : decode cX4_told 7 = .ok (.getfield 17, 3) := by decide +kernel
theorem dX4_told_10 : decode cX4_told 10 = .ok (.iload_n 1, 1) := by decide +kernel
theorem dX4_told_11 : decode cX4_told 11 = .ok (.iaload, 1) := by decide +kernel
theorem dX4_told_12 : decode cX4_told 12 = .ok (.goto 26, 3) := by decide +kernel
theorem dX4_told_15 : decode cX4_told 15 = .ok (.iload_n 1, 1) := by decide +kernel
theorem dX4_told_16 : decode cX4_told 16 = .ok (.bipush 9, 2) := by decide +kernel
theorem dX4_told_18 : decode cX4_told 18 = .ok (.if_icmp .ge 13, 3) := by decide +kernel
theorem dX4_told_21 : decode cX4_told 21 = .ok (.aload_n 0, 1) := by decide +kernel
theorem dX4_told_22 : decode cX4_told 22 = .ok (.iload_n 1, 1) := by decide +kernel
theorem dX4_told_23 : decode cX4_told 23 = .ok (.iconst 3, 1) := by decide +kernel
theorem dX4_told_24 : decode cX4_told 24 = .ok (.isub, 1) := by decide +kernel
theorem dX4_told_25 : decode cX4_told 25 = .ok (.invokevirtual 223, 3) := by decide +kernel
theorem dX4_told_28 : decode cX4_told 28 = .ok (.goto 10, 3) := by decide +kernel
theorem dX4_told_31 : decode cX4_told 31 = .ok (.aload_n 0, 1) := by decide +kernel
theorem dX4_told_32 : decode cX4_told 32 = .ok (.getfield 17, 3) := by decide +kernel
theorem dX4_told_35 : decode cX4_told 35 = .ok (.bipush 6, 2) := by decide +kernel
theorem dX4_told_37 : decode cX4_told 37 = .ok (.iaload, 1) := by decide +kernel
theorem dX4_told_38 : decode cX4_told 38 = .ok (.ireturn, 1) := by decide +kernel
set_option maxRecDepth 20000 in
theorem ggX4_state_X4_in : GoodIn wsX4_state wsX4_in := goodIn_r _ [5] (by decide +kernel) (by decide +kernel)
set_option maxRecDepth 20000 in
theorem gX4_state_X4_in : GoodIn wsX4_state (va_wsS RX4 57 yX4_in wsX4_in) := goodIn_app (goodIn_of _ (by decide +kernel)) ggX4_state_X4_in
set_option maxRecDepth 20000 in
theorem ggX4_state_X4_fails : GoodIn wsX4_state wsX4_fails := goodIn_r _ [9, 1, 26, 27, 28, 29, 30, 31, 32, 33, 34, 35, 36, 37, 38, 39, 40] (by decide +kernel) (by decide +kernel)
set_option maxRecDepth 20000 in
theorem gX4_state_X4_fails : GoodIn wsX4_state (wsV RX4 139 RX4 yX4_fails wsX4_fails) := goodIn_app (goodIn_of _ (by decide +kernel)) ggX4_state_X4_fails
set_option maxRecDepth 20000 in
theorem ggX4_state_X4_told : GoodIn wsX4_state wsX4_told := goodIn_r _ [13, 14, 15, 16, 17, 4, 18, 19, 20, 21, 22, 23, 24, 25, 26, 27, 28, 29, 30, 31, 32, 33, 34, 35, 36, 37, 38, 39, 40] (by decide +kernel) (by decide +kernel)
set_option maxRecDepth 20000 in
theorem gX4_state_X4_told : GoodIn wsX4_state (wsV RX4 226 RX4 yX4_told wsX4_told) := goodIn_app (goodIn_of _ (by decide +kernel)) ggX4_state_X4_told
theorem dX4_state_0 : decode cX4_state 0 = .ok (.aload_n 0, 1) := by decide +kernel
theorem dX4_state_1 : decode cX4_state 1 = .ok (.iconst 0, 1) := by decide +kernel
theorem dX4_state_2 : decode cX4_state 2 = .ok (.putfield 35, 3) := by decide +kernel
theorem dX4_state_5 : decode cX4_state 5 = .ok (.aload_n 0, 1) := by decide +kernel
theorem dX4_state_6 : decode cX4_state 6 = .ok (.iload_n 1, 1) := by decide +kernel
theorem dX4_state_7 : decode cX4_state 7 = .ok (.iconst 0, 1) := by decide +kernel
theorem dX4_state_8 : decode cX4_state 8 = .ok (.bipush 9, 2) := by decide +kernel
theorem dX4_state_10 : decode cX4_state 10 = .ok (.invokestatic 57, 3) := by decide +kernel
theorem dX4_state_13 : decode cX4_state 13 = .ok (.ifCond .ne 7, 3) := by decide +kernel
theorem dX4_state_16 : decode cX4_state 16 = .ok (.iconst 1, 1) := by decide +kernel
theorem dX4_state_17 : decode cX4_state 17 = .ok (.goto 4, 3) := by decide +kernel
theorem dX4_state_20 : decode cX4_state 20 = .ok (.iconst 0, 1) := by decide +kernel
theorem dX4_state_21 : decode cX4_state 21 = .ok (.iconst 1, 1) := by decide +kernel
theorem dX4_state_22 : decode cX4_state 22 = .ok (.invokevirtual 139, 3) := by decide +kernel
theorem dX4_state_25 : decode cX4_state 25 = .ok (.ifCond .eq 7, 3) := by decide +kernel
theorem dX4_state_28 : decode cX4_state 28 = .ok (.iconst 0, 1) := by decide +kernel
theorem dX4_state_29 : decode cX4_state 29 = .ok (.goto 8, 3) := by decide +kernel
theorem dX4_state_32 : decode cX4_state 32 = .ok (.aload_n 0, 1) := by decide +kernel
theorem dX4_state_33 : decode cX4_state 33 = .ok (.iload_n 1, 1) := by decide +kernel
theorem dX4_state_34 : decode cX4_state 34 = .ok (.invokevirtual 226, 3) := by decide +kernel
theorem dX4_state_37 : decode cX4_state 37 = .ok (.ireturn, 1) := by decide +kernel
set_option maxRecDepth 20000 in
theorem ggX4_sumOf_X4_ofJourney : GoodIn wsX4_sumOf wsX4_ofJourney := goodIn_r _ [6, 1, 7, 8, 5, 9, 26, 27, 28, 29, 30, 31, 32, 33, 34, 35, 36, 37, 38, 39, 40] (by decide +kernel) (by decide +kernel)
set_option maxRecDepth 20000 in
theorem gX4_sumOf_X4_ofJourney : GoodIn wsX4_sumOf (wsV RX4 158 RX4 yX4_ofJourney wsX4_ofJourney) := goodIn_app (goodIn_of _ (by decide +kernel)) ggX4_sumOf_X4_ofJourney
set_option maxRecDepth 20000 in
theorem ggX4_sumOf_X4_stepAt : GoodIn wsX4_sumOf wsX4_stepAt := goodIn_r _ [13, 2, 3, 4, 5, 6, 1, 7, 8, 9, 26, 27, 28, 29, 30, 31, 32, 33, 34, 35, 36, 37, 38, 39, 40] (by decide +kernel) (by decide +kernel)
set_option maxRecDepth 20000 in
theorem gX4_sumOf_X4_stepAt : GoodIn wsX4_sumOf (wsV RX4 161 RX4 yX4_stepAt wsX4_stepAt) := goodIn_app (goodIn_of _ (by decide +kernel)) ggX4_sumOf_X4_stepAt
set_option maxRecDepth 20000 in
theorem ggX4_sumOf_X4_stateOf : GoodIn wsX4_sumOf wsX4_stateOf := goodIn_r _ [17, 1, 10, 11, 12, 5, 13, 2, 3, 4, 6, 7, 8, 9, 26, 27, 28, 29, 30, 31, 32, 33, 34, 35, 36, 37, 38, 39, 40] (by decide +kernel) (by decide +kernel)
set_option maxRecDepth 20000 in
theorem gX4_sumOf_X4_stateOf : GoodIn wsX4_sumOf (wsV RX4 164 RX4 yX4_stateOf wsX4_stateOf) := goodIn_app (goodIn_of _ (by decide +kernel)) ggX4_sumOf_X4_stateOf
set_option maxRecDepth 20000 in
theorem ggX4_sumOf_X4_isTaken : GoodIn wsX4_sumOf wsX4_isTaken := goodIn_r _ [21, 14, 15, 16, 5, 17, 1, 10, 11, 12, 13, 2, 3, 4, 6, 7, 8, 9, 26, 27, 28, 29, 30, 31, 32, 33, 34, 35, 36, 37, 38, 39, 40] (by decide +kernel) (by decide +kernel)
set_option maxRecDepth 20000 in
theorem gX4_sumOf_X4_isTaken : GoodIn wsX4_sumOf (wsV RX4 170 RX4 yX4_isTaken wsX4_isTaken) := goodIn_app (goodIn_of _ (by decide +kernel)) ggX4_sumOf_X4_isTaken
set_option maxRecDepth 20000 in
theorem ggX4_sumOf_X4_hasEnded : GoodIn wsX4_sumOf wsX4_hasEnded := goodIn_r _ [25, 2, 3, 4, 5, 6, 1, 7, 8, 9, 26, 27, 28, 29, 30, 31, 32, 33, 34, 35, 36, 37, 38, 39, 40] (by decide +kernel) (by decide +kernel)
set_option maxRecDepth 20000 in
theorem gX4_sumOf_X4_hasEnded : GoodIn wsX4_sumOf (wsV RX4 167 RX4 yX4_hasEnded wsX4_hasEnded) := goodIn_app (goodIn_of _ (by decide +kernel)) ggX4_sumOf_X4_hasEnded
theorem dX4_sumOf_0 : decode cX4_sumOf 0 = .ok (.iconst 0, 1) := by decide +kernel
theorem dX4_sumOf_1 : decode cX4_sumOf 1 = .ok (.istore_n 3, 1) := by decide +kernel
theorem dX4_sumOf_2 : decode cX4_sumOf 2 = .ok (.iconst 0, 1) := by decide +kernel
theorem dX4_sumOf_3 : decode cX4_sumOf 3 = .ok (.istore 4, 2) := by decide +kernel
theorem dX4_sumOf_5 : decode cX4_sumOf 5 = .ok (.iload 4, 2) := by decide +kernel
theorem dX4_sumOf_7 : decode cX4_sumOf 7 = .ok (.aload_n 0, 1) := by decide +kernel
theorem dX4_sumOf_8 : decode cX4_sumOf 8 = .ok (.getfield 17, 3) := by decide +kernel
theorem dX4_sumOf_11 : decode cX4_sumOf 11 = .ok (.iconst 2, 1) := by decide +kernel
theorem dX4_sumOf_12 : decode cX4_sumOf 12 = .ok (.iaload, 1) := by decide +kernel
theorem dX4_sumOf_13 : decode cX4_sumOf 13 = .ok (.if_icmp .ge 151, 3) := by decide +kernel
theorem dX4_sumOf_16 : decode cX4_sumOf 16 = .ok (.iconst 0, 1) := by decide +kernel
theorem dX4_sumOf_17 : decode cX4_sumOf 17 = .ok (.istore 5, 2) := by decide +kernel
theorem dX4_sumOf_19 : decode cX4_sumOf 19 = .ok (.iload 5, 2) := by decide +kernel
theorem dX4_sumOf_21 : decode cX4_sumOf 21 = .ok (.aload_n 0, 1) := by decide +kernel
theorem dX4_sumOf_22 : decode cX4_sumOf 22 = .ok (.iload 4, 2) := by decide +kernel
theorem dX4_sumOf_24 : decode cX4_sumOf 24 = .ok (.iconst 3, 1) := by decide +kernel
theorem dX4_sumOf_25 : decode cX4_sumOf 25 = .ok (.invokevirtual 158, 3) := by decide +kernel
theorem dX4_sumOf_28 : decode cX4_sumOf 28 = .ok (.if_icmp .ge 130, 3) := by decide +kernel
theorem dX4_sumOf_31 : decode cX4_sumOf 31 = .ok (.aload_n 0, 1) := by decide +kernel
theorem dX4_sumOf_32 : decode cX4_sumOf 32 = .ok (.getfield 17, 3) := by decide +kernel
theorem dX4_sumOf_35 : decode cX4_sumOf 35 = .ok (.aload_n 0, 1) := by decide +kernel
theorem dX4_sumOf_36 : decode cX4_sumOf 36 = .ok (.iload 4, 2) := by decide +kernel
theorem dX4_sumOf_38 : decode cX4_sumOf 38 = .ok (.iload 5, 2) := by decide +kernel
theorem dX4_sumOf_40 : decode cX4_sumOf 40 = .ok (.invokevirtual 161, 3) := by decide +kernel
theorem dX4_sumOf_43 : decode cX4_sumOf 43 = .ok (.iconst 1, 1) := by decide +kernel
theorem dX4_sumOf_44 : decode cX4_sumOf 44 = .ok (.iadd, 1) := by decide +kernel
theorem dX4_sumOf_45 : decode cX4_sumOf 45 = .ok (.iaload, 1) := by decide +kernel
theorem dX4_sumOf_46 : decode cX4_sumOf 46 = .ok (.iload_n 1, 1) := by decide +kernel
theorem dX4_sumOf_47 : decode cX4_sumOf 47 = .ok (.if_icmp .eq 6, 3) := by decide +kernel
theorem dX4_sumOf_50 : decode cX4_sumOf 50 = .ok (.goto 102, 3) := by decide +kernel
theorem dX4_sumOf_53 : decode cX4_sumOf 53 = .ok (.iload_n 2, 1) := by decide +kernel
theorem dX4_sumOf_54 : decode cX4_sumOf 54 = .ok (.iconst 5, 1) := by decide +kernel
theorem dX4_sumOf_55 : decode cX4_sumOf 55 = .ok (.if_icmp .ne 24, 3) := by decide +kernel
theorem dX4_sumOf_58 : decode cX4_sumOf 58 = .ok (.aload_n 0, 1) := by decide +kernel
theorem dX4_sumOf_59 : decode cX4_sumOf 59 = .ok (.iload 4, 2) := by decide +kernel
theorem dX4_sumOf_61 : decode cX4_sumOf 61 = .ok (.iload 5, 2) := by decide +kernel
theorem dX4_sumOf_63 : decode cX4_sumOf 63 = .ok (.invokevirtual 164, 3) := by decide +kernel
theorem dX4_sumOf_66 : decode cX4_sumOf 66 = .ok (.bipush 6, 2) := by decide +kernel
theorem dX4_sumOf_68 : decode cX4_sumOf 68 = .ok (.if_icmp .ne 7, 3) := by decide +kernel
theorem dX4_sumOf_71 : decode cX4_sumOf 71 = .ok (.iconst 1, 1) := by decide +kernel
theorem dX4_sumOf_72 : decode cX4_sumOf 72 = .ok (.goto 51, 3) := by decide +kernel
theorem dX4_sumOf_75 : decode cX4_sumOf 75 = .ok (.iconst 0, 1) := by decide +kernel
theorem dX4_sumOf_76 : decode cX4_sumOf 76 = .ok (.goto 47, 3) := by decide +kernel
theorem dX4_sumOf_79 : decode cX4_sumOf 79 = .ok (.aload_n 0, 1) := by decide +kernel
theorem dX4_sumOf_80 : decode cX4_sumOf 80 = .ok (.iload 4, 2) := by decide +kernel
theorem dX4_sumOf_82 : decode cX4_sumOf 82 = .ok (.iload 5, 2) := by decide +kernel
theorem dX4_sumOf_84 : decode cX4_sumOf 84 = .ok (.invokevirtual 170, 3) := by decide +kernel
theorem dX4_sumOf_87 : decode cX4_sumOf 87 = .ok (.ifCond .eq 35, 3) := by decide +kernel
theorem dX4_sumOf_90 : decode cX4_sumOf 90 = .ok (.iload_n 2, 1) := by decide +kernel
theorem dX4_sumOf_91 : decode cX4_sumOf 91 = .ok (.iconst 3, 1) := by decide +kernel
theorem dX4_sumOf_92 : decode cX4_sumOf 92 = .ok (.if_icmp .ne 15, 3) := by decide +kernel
theorem dX4_sumOf_95 : decode cX4_sumOf 95 = .ok (.aload_n 0, 1) := by decide +kernel
theorem dX4_sumOf_96 : decode cX4_sumOf 96 = .ok (.iload 4, 2) := by decide +kernel
theorem dX4_sumOf_98 : decode cX4_sumOf 98 = .ok (.invokevirtual 167, 3) := by decide +kernel
theorem dX4_sumOf_101 : decode cX4_sumOf 101 = .ok (.ifCond .ne 21, 3) := by decide +kernel
theorem dX4_sumOf_104 : decode cX4_sumOf 104 = .ok (.goto 14, 3) := by decide +kernel
theorem dX4_sumOf_107 : decode cX4_sumOf 107 = .ok (.aload_n 0, 1) := by decide +kernel
theorem dX4_sumOf_108 : decode cX4_sumOf 108 = .ok (.iload 4, 2) := by decide +kernel
theorem dX4_sumOf_110 : decode cX4_sumOf 110 = .ok (.iconst 0, 1) := by decide +kernel
theorem dX4_sumOf_111 : decode cX4_sumOf 111 = .ok (.invokevirtual 158, 3) := by decide +kernel
theorem dX4_sumOf_114 : decode cX4_sumOf 114 = .ok (.iconst 3, 1) := by decide +kernel
theorem dX4_sumOf_115 : decode cX4_sumOf 115 = .ok (.if_icmp .ne 7, 3) := by decide +kernel
theorem dX4_sumOf_118 : decode cX4_sumOf 118 = .ok (.iconst 1, 1) := by decide +kernel
theorem dX4_sumOf_119 : decode cX4_sumOf 119 = .ok (.goto 4, 3) := by decide +kernel
theorem dX4_sumOf_122 : decode cX4_sumOf 122 = .ok (.iconst 0, 1) := by decide +kernel
theorem dX4_sumOf_123 : decode cX4_sumOf 123 = .ok (.istore 6, 2) := by decide +kernel
theorem dX4_sumOf_125 : decode cX4_sumOf 125 = .ok (.iload_n 3, 1) := by decide +kernel
theorem dX4_sumOf_126 : decode cX4_sumOf 126 = .ok (.iload 6, 2) := by decide +kernel
theorem dX4_sumOf_128 : decode cX4_sumOf 128 = .ok (.ifCond .eq 21, 3) := by decide +kernel
theorem dX4_sumOf_131 : decode cX4_sumOf 131 = .ok (.aload_n 0, 1) := by decide +kernel
theorem dX4_sumOf_132 : decode cX4_sumOf 132 = .ok (.getfield 17, 3) := by decide +kernel
theorem dX4_sumOf_135 : decode cX4_sumOf 135 = .ok (.aload_n 0, 1) := by decide +kernel
theorem dX4_sumOf_136 : decode cX4_sumOf 136 = .ok (.iload 4, 2) := by decide +kernel
theorem dX4_sumOf_138 : decode cX4_sumOf 138 = .ok (.iload 5, 2) := by decide +kernel
theorem dX4_sumOf_140 : decode cX4_sumOf 140 = .ok (.invokevirtual 161, 3) := by decide +kernel
theorem dX4_sumOf_143 : decode cX4_sumOf 143 = .ok (.iconst 2, 1) := by decide +kernel
theorem dX4_sumOf_144 : decode cX4_sumOf 144 = .ok (.iadd, 1) := by decide +kernel
theorem dX4_sumOf_145 : decode cX4_sumOf 145 = .ok (.iaload, 1) := by decide +kernel
theorem dX4_sumOf_146 : decode cX4_sumOf 146 = .ok (.goto 4, 3) := by decide +kernel
theorem dX4_sumOf_149 : decode cX4_sumOf 149 = .ok (.iconst 0, 1) := by decide +kernel
theorem dX4_sumOf_150 : decode cX4_sumOf 150 = .ok (.iadd, 1) := by decide +kernel
theorem dX4_sumOf_151 : decode cX4_sumOf 151 = .ok (.istore_n 3, 1) := by decide +kernel
theorem dX4_sumOf_152 : decode cX4_sumOf 152 = .ok (.iinc 5 1, 3) := by decide +kernel
theorem dX4_sumOf_155 : decode cX4_sumOf 155 = .ok (.goto (-136), 3) := by decide +kernel
theorem dX4_sumOf_158 : decode cX4_sumOf 158 = .ok (.iinc 4 1, 3) := by decide +kernel
theorem dX4_sumOf_161 : decode cX4_sumOf 161 = .ok (.goto (-156), 3) := by decide +kernel
theorem dX4_sumOf_164 : decode cX4_sumOf 164 = .ok (.iload_n 3, 1) := by decide +kernel
theorem dX4_sumOf_165 : decode cX4_sumOf 165 = .ok (.ireturn, 1) := by decide +kernel
set_option maxRecDepth 20000 in
theorem ggX4_toldStock_X4_holders : GoodIn wsX4_toldStock wsX4_holders := goodIn_r _ [6, 1, 7, 8, 9, 5, 10, 11, 12, 13, 14, 15, 16, 17, 18, 19, 20, 21, 22, 23, 24, 25, 26, 27, 28, 29, 30, 31, 32, 33, 38, 39, 40, 41, 42, 43, 44, 45, 46, 47, 48, 49, 50, 51, 52] (by decide +kernel) (by decide +kernel)
set_option maxRecDepth 20000 in
theorem gX4_toldStock_X4_holders : GoodIn wsX4_toldStock (wsV RX4 180 RX4 yX4_holders wsX4_holders) := goodIn_app (goodIn_of _ (by decide +kernel)) ggX4_toldStock_X4_holders
set_option maxRecDepth 20000 in
theorem ggX4_toldStock_X4_sumOf : GoodIn wsX4_toldStock wsX4_sumOf := goodIn_r _ [37, 1, 15, 16, 17, 5, 18, 19, 20, 21, 22, 23, 24, 25, 30, 31, 32, 33, 26, 27, 28, 29, 11, 12, 13, 14, 38, 39, 40, 41, 42, 43, 44, 45, 46, 47, 48, 49, 50, 51, 52] (by decide +kernel) (by decide +kernel)
set_option maxRecDepth 20000 in
theorem gX4_toldStock_X4_sumOf : GoodIn wsX4_toldStock (wsV RX4 229 RX4 yX4_sumOf wsX4_sumOf) := goodIn_app (goodIn_of _ (by decide +kernel)) ggX4_toldStock_X4_sumOf
theorem dX4_toldStock_0 : decode cX4_toldStock 0 = .ok (.iload_n 2, 1) := by decide +kernel
theorem dX4_toldStock_1 : decode cX4_toldStock 1 = .ok (.iconst 2, 1) := by decide +kernel
theorem dX4_toldStock_2 : decode cX4_toldStock 2 = .ok (.if_icmp .ge 19, 3) := by decide +kernel
theorem dX4_toldStock_5 : decode cX4_toldStock 5 = .ok (.aload_n 0, 1) := by decide +kernel
theorem dX4_toldStock_6 : decode cX4_toldStock 6 = .ok (.getfield 17, 3) := by decide +kernel
theorem dX4_toldStock_9 : decode cX4_toldStock 9 = .ok (.bipush 7, 2) := by decide +kernel
theorem dX4_toldStock_11 : decode cX4_toldStock 11 = .ok (.iconst 2, 1) := by decide +kernel
theorem dX4_toldStock_12 : decode cX4_toldStock 12 = .ok (.iload_n 1, 1) := by decide +kernel
theorem dX4_toldStock_13 : decode cX4_toldStock 13 = .ok (.imul, 1) := by decide +kernel
theorem dX4_toldStock_14 : decode cX4_toldStock 14 = .ok (.iadd, 1) := by decide +kernel
theorem dX4_toldStock_15 : decode cX4_toldStock 15 = .ok (.iload_n 2, 1) := by decide +kernel
theorem dX4_toldStock_16 : decode cX4_toldStock 16 = .ok (.iadd, 1) := by decide +kernel
theorem dX4_toldStock_17 : decode cX4_toldStock 17 = .ok (.iaload, 1) := by decide +kernel
theorem dX4_toldStock_18 : decode cX4_toldStock 18 = .ok (.goto 22, 3) := by decide +kernel
theorem dX4_toldStock_21 : decode cX4_toldStock 21 = .ok (.iload_n 2, 1) := by decide +kernel
theorem dX4_toldStock_22 : decode cX4_toldStock 22 = .ok (.iconst 2, 1) := by decide +kernel
theorem dX4_toldStock_23 : decode cX4_toldStock 23 = .ok (.if_icmp .ne 11, 3) := by decide +kernel
theorem dX4_toldStock_26 : decode cX4_toldStock 26 = .ok (.aload_n 0, 1) := by decide +kernel
theorem dX4_toldStock_27 : decode cX4_toldStock 27 = .ok (.iload_n 1, 1) := by decide +kernel
theorem dX4_toldStock_28 : decode cX4_toldStock 28 = .ok (.invokevirtual 180, 3) := by decide +kernel
theorem dX4_toldStock_31 : decode cX4_toldStock 31 = .ok (.goto 9, 3) := by decide +kernel
theorem dX4_toldStock_34 : decode cX4_toldStock 34 = .ok (.aload_n 0, 1) := by decide +kernel
theorem dX4_toldStock_35 : decode cX4_toldStock 35 = .ok (.iload_n 1, 1) := by decide +kernel
theorem dX4_toldStock_36 : decode cX4_toldStock 36 = .ok (.iload_n 2, 1) := by decide +kernel
theorem dX4_toldStock_37 : decode cX4_toldStock 37 = .ok (.invokevirtual 229, 3) := by decide +kernel
theorem dX4_toldStock_40 : decode cX4_toldStock 40 = .ok (.ireturn, 1) := by decide +kernel
set_option maxRecDepth 20000 in
theorem ggX4_stock_X4_noStock : GoodIn wsX4_stock wsX4_noStock := goodIn_r _ [6, 7, 8, 9, 5, 10, 11, 12, 13, 14, 1, 54, 55, 56, 57, 58, 59, 60, 61, 62, 63, 64, 65, 66, 67, 68] (by decide +kernel) (by decide +kernel)
set_option maxRecDepth 20000 in
theorem gX4_stock_X4_noStock : GoodIn wsX4_stock (wsV RX4 232 RX4 yX4_noStock wsX4_noStock) := goodIn_app (goodIn_of _ (by decide +kernel)) ggX4_stock_X4_noStock
set_option maxRecDepth 20000 in
theorem ggX4_stock_X4_in : GoodIn wsX4_stock wsX4_in := goodIn_r _ [10] (by decide +kernel) (by decide +kernel)
set_option maxRecDepth 20000 in
theorem gX4_stock_X4_in : GoodIn wsX4_stock (va_wsS RX4 57 yX4_in wsX4_in) := goodIn_app (goodIn_of _ (by decide +kernel)) ggX4_stock_X4_in
set_option maxRecDepth 20000 in
theorem ggX4_stock_X4_fails : GoodIn wsX4_stock wsX4_fails := goodIn_r _ [14, 1, 54, 55, 56, 57, 58, 59, 60, 61, 62, 63, 64, 65, 66, 67, 68] (by decide +kernel) (by decide +kernel)
set_option maxRecDepth 20000 in
theorem gX4_stock_X4_fails : GoodIn wsX4_stock (wsV RX4 139 RX4 yX4_fails wsX4_fails) := goodIn_app (goodIn_of _ (by decide +kernel)) ggX4_stock_X4_fails
set_option maxRecDepth 20000 in
theorem ggX4_stock_X4_toldStock : GoodIn wsX4_stock wsX4_toldStock := goodIn_r _ [18, 7, 19, 20, 21, 5, 22, 23, 24, 25, 26, 27, 28, 29, 30, 31, 32, 33, 34, 35, 36, 37, 38, 39, 40, 41, 42, 43, 44, 45, 46, 47, 48, 49, 50, 51, 52, 53, 54, 55, 56, 57, 58, 59, 60, 61, 62, 63, 64, 65, 66, 67, 68] (by decide +kernel) (by decide +kernel)
set_option maxRecDepth 20000 in
theorem gX4_stock_X4_toldStock : GoodIn wsX4_stock (wsV RX4 235 RX4 yX4_toldStock wsX4_toldStock) := goodIn_app (goodIn_of _ (by decide +kernel)) ggX4_stock_X4_toldStock
theorem dX4_stock_0 : decode cX4_stock 0 = .ok (.aload_n 0, 1) := by decide +kernel
theorem dX4_stock_1 : decode cX4_stock 1 = .ok (.iconst 0, 1) := by decide +kernel
theorem dX4_stock_2 : decode cX4_stock 2 = .ok (.putfield 35, 3) := by decide +kernel
theorem dX4_stock_5 : decode cX4_stock 5 = .ok (.aload_n 0, 1) := by decide +kernel
theorem dX4_stock_6 : decode cX4_stock 6 = .ok (.iload_n 1, 1) := by decide +kernel
theorem dX4_stock_7 : decode cX4_stock 7 = .ok (.invokevirtual 232, 3) := by decide +kernel
theorem dX4_stock_10 : decode cX4_stock 10 = .ok (.ifCond .ne 25, 3) := by decide +kernel
theorem dX4_stock_13 : decode cX4_stock 13 = .ok (.aload_n 0, 1) := by decide +kernel
theorem dX4_stock_14 : decode cX4_stock 14 = .ok (.iload_n 2, 1) := by decide +kernel
theorem dX4_stock_15 : decode cX4_stock 15 = .ok (.iconst 0, 1) := by decide +kernel
theorem dX4_stock_16 : decode cX4_stock 16 = .ok (.iconst 5, 1) := by decide +kernel
theorem dX4_stock_17 : decode cX4_stock 17 = .ok (.invokestatic 57, 3) := by decide +kernel
theorem dX4_stock_20 : decode cX4_stock 20 = .ok (.ifCond .ne 7, 3) := by decide +kernel
theorem dX4_stock_23 : decode cX4_stock 23 = .ok (.iconst 1, 1) := by decide +kernel
theorem dX4_stock_24 : decode cX4_stock 24 = .ok (.goto 4, 3) := by decide +kernel
theorem dX4_stock_27 : decode cX4_stock 27 = .ok (.iconst 0, 1) := by decide +kernel
theorem dX4_stock_28 : decode cX4_stock 28 = .ok (.iconst 2, 1) := by decide +kernel
theorem dX4_stock_29 : decode cX4_stock 29 = .ok (.invokevirtual 139, 3) := by decide +kernel
theorem dX4_stock_32 : decode cX4_stock 32 = .ok (.ifCond .eq 7, 3) := by decide +kernel
theorem dX4_stock_35 : decode cX4_stock 35 = .ok (.iconst 0, 1) := by decide +kernel
theorem dX4_stock_36 : decode cX4_stock 36 = .ok (.goto 9, 3) := by decide +kernel
theorem dX4_stock_39 : decode cX4_stock 39 = .ok (.aload_n 0, 1) := by decide +kernel
theorem dX4_stock_40 : decode cX4_stock 40 = .ok (.iload_n 1, 1) := by decide +kernel
theorem dX4_stock_41 : decode cX4_stock 41 = .ok (.iload_n 2, 1) := by decide +kernel
theorem dX4_stock_42 : decode cX4_stock 42 = .ok (.invokevirtual 235, 3) := by decide +kernel
theorem dX4_stock_45 : decode cX4_stock 45 = .ok (.ireturn, 1) := by decide +kernel
set_option maxRecDepth 20000 in
theorem ggX4_toldJourney_X4_ofJourney : GoodIn wsX4_toldJourney wsX4_ofJourney := goodIn_r _ [6, 1, 7, 8, 5, 9, 18, 19, 20, 21, 22, 23, 24, 25, 26, 27, 28, 29, 30, 31, 32] (by decide +kernel) (by decide +kernel)
set_option maxRecDepth 20000 in
theorem gX4_toldJourney_X4_ofJourney : GoodIn wsX4_toldJourney (wsV RX4 158 RX4 yX4_ofJourney wsX4_ofJourney) := goodIn_app (goodIn_of _ (by decide +kernel)) ggX4_toldJourney_X4_ofJourney
set_option maxRecDepth 20000 in
theorem ggX4_toldJourney_X4_stateOf : GoodIn wsX4_toldJourney wsX4_stateOf := goodIn_r _ [13, 1, 14, 15, 16, 5, 17, 2, 3, 4, 6, 7, 8, 9, 18, 19, 20, 21, 22, 23, 24, 25, 26, 27, 28, 29, 30, 31, 32] (by decide +kernel) (by decide +kernel)
set_option maxRecDepth 20000 in
theorem gX4_toldJourney_X4_stateOf : GoodIn wsX4_toldJourney (wsV RX4 164 RX4 yX4_stateOf wsX4_stateOf) := goodIn_app (goodIn_of _ (by decide +kernel)) ggX4_toldJourney_X4_stateOf
set_option maxRecDepth 20000 in
theorem ggX4_toldJourney_X4_stepAt : GoodIn wsX4_toldJourney wsX4_stepAt := goodIn_r _ [17, 2, 3, 4, 5, 6, 1, 7, 8, 9, 18, 19, 20, 21, 22, 23, 24, 25, 26, 27, 28, 29, 30, 31, 32] (by decide +kernel) (by decide +kernel)
set_option maxRecDepth 20000 in
theorem gX4_toldJourney_X4_stepAt : GoodIn wsX4_toldJourney (wsV RX4 161 RX4 yX4_stepAt wsX4_stepAt) := goodIn_app (goodIn_of _ (by decide +kernel)) ggX4_toldJourney_X4_stepAt
theorem dX4_toldJourney_0 : decode cX4_toldJourney 0 = .ok (.iload_n 2, 1) := by decide +kernel
theorem dX4_toldJourney_1 : decode cX4_toldJourney 1 = .ok (.bipush 6, 2) := by decide +kernel
theorem dX4_toldJourney_3 : decode cX4_toldJourney 3 = .ok (.if_icmp .ge 10, 3) := by decide +kernel
theorem dX4_toldJourney_6 : decode cX4_toldJourney 6 = .ok (.aload_n 0, 1) := by decide +kernel
theorem dX4_toldJourney_7 : decode cX4_toldJourney 7 = .ok (.iload_n 1, 1) := by decide +kernel
theorem dX4_toldJourney_8 : decode cX4_toldJourney 8 = .ok (.iload_n 2, 1) := by decide +kernel
theorem dX4_toldJourney_9 : decode cX4_toldJourney 9 = .ok (.invokevirtual 158, 3) := by decide +kernel
theorem dX4_toldJourney_12 : decode cX4_toldJourney 12 = .ok (.ireturn, 1) := by decide +kernel
theorem dX4_toldJourney_13 : decode cX4_toldJourney 13 = .ok (.iconst 0, 1) := by decide +kernel
theorem dX4_toldJourney_14 : decode cX4_toldJourney 14 = .ok (.istore_n 3, 1) := by decide +kernel
theorem dX4_toldJourney_15 : decode cX4_toldJourney 15 = .ok (.aload_n 0, 1) := by decide +kernel
theorem dX4_toldJourney_16 : decode cX4_toldJourney 16 = .ok (.iload_n 1, 1) := by decide +kernel
theorem dX4_toldJourney_17 : decode cX4_toldJourney 17 = .ok (.iconst 0, 1) := by decide +kernel
theorem dX4_toldJourney_18 : decode cX4_toldJourney 18 = .ok (.invokevirtual 158, 3) := by decide +kernel
theorem dX4_toldJourney_21 : decode cX4_toldJourney 21 = .ok (.istore 4, 2) := by decide +kernel
theorem dX4_toldJourney_23 : decode cX4_toldJourney 23 = .ok (.iconst 0, 1) := by decide +kernel
theorem dX4_toldJourney_24 : decode cX4_toldJourney 24 = .ok (.istore 5, 2) := by decide +kernel
theorem dX4_toldJourney_26 : decode cX4_toldJourney 26 = .ok (.iload 5, 2) := by decide +kernel
theorem dX4_toldJourney_28 : decode cX4_toldJourney 28 = .ok (.aload_n 0, 1) := by decide +kernel
theorem dX4_toldJourney_29 : decode cX4_toldJourney 29 = .ok (.iload_n 1, 1) := by decide +kernel
theorem dX4_toldJourney_30 : decode cX4_toldJourney 30 = .ok (.iconst 3, 1) := by decide +kernel
theorem dX4_toldJourney_31 : decode cX4_toldJourney 31 = .ok (.invokevirtual 158, 3) := by decide +kernel
theorem dX4_toldJourney_34 : decode cX4_toldJourney 34 = .ok (.if_icmp .ge 53, 3) := by decide +kernel
theorem dX4_toldJourney_37 : decode cX4_toldJourney 37 = .ok (.iload 4, 2) := by decide +kernel
theorem dX4_toldJourney_39 : decode cX4_toldJourney 39 = .ok (.iconst 2, 1) := by decide +kernel
theorem dX4_toldJourney_40 : decode cX4_toldJourney 40 = .ok (.if_icmp .eq 9, 3) := by decide +kernel
theorem dX4_toldJourney_43 : decode cX4_toldJourney 43 = .ok (.iload 4, 2) := by decide +kernel
theorem dX4_toldJourney_45 : decode cX4_toldJourney 45 = .ok (.iconst 5, 1) := by decide +kernel
theorem dX4_toldJourney_46 : decode cX4_toldJourney 46 = .ok (.if_icmp .ne 41, 3) := by decide +kernel
theorem dX4_toldJourney_49 : decode cX4_toldJourney 49 = .ok (.iload_n 3, 1) := by decide +kernel
theorem dX4_toldJourney_50 : decode cX4_toldJourney 50 = .ok (.aload_n 0, 1) := by decide +kernel
theorem dX4_toldJourney_51 : decode cX4_toldJourney 51 = .ok (.iload_n 1, 1) := by decide +kernel
theorem dX4_toldJourney_52 : decode cX4_toldJourney 52 = .ok (.iload 5, 2) := by decide +kernel
theorem dX4_toldJourney_54 : decode cX4_toldJourney 54 = .ok (.invokevirtual 164, 3) := by decide +kernel
theorem dX4_toldJourney_57 : decode cX4_toldJourney 57 = .ok (.iconst 3, 1) := by decide +kernel
theorem dX4_toldJourney_58 : decode cX4_toldJourney 58 = .ok (.if_icmp .ne 20, 3) := by decide +kernel
theorem dX4_toldJourney_61 : decode cX4_toldJourney 61 = .ok (.aload_n 0, 1) := by decide +kernel
theorem dX4_toldJourney_62 : decode cX4_toldJourney 62 = .ok (.getfield 17, 3) := by decide +kernel
theorem dX4_toldJourney_65 : decode cX4_toldJourney 65 = .ok (.aload_n 0, 1) := by decide +kernel
theorem dX4_toldJourney_66 : decode cX4_toldJourney 66 = .ok (.iload_n 1, 1) := by decide +kernel
theorem dX4_toldJourney_67 : decode cX4_toldJourney 67 = .ok (.iload 5, 2) := by decide +kernel
theorem dX4_toldJourney_69 : decode cX4_toldJourney 69 = .ok (.invokevirtual 161, 3) := by decide +kernel
theorem dX4_toldJourney_72 : decode cX4_toldJourney 72 = .ok (.iconst 2, 1) := by decide +kernel
theorem dX4_toldJourney_73 : decode cX4_toldJourney 73 = .ok (.iadd, 1) := by decide +kernel
theorem dX4_toldJourney_74 : decode cX4_toldJourney 74 = .ok (.iaload, 1) := by decide +kernel
theorem dX4_toldJourney_75 : decode cX4_toldJourney 75 = .ok (.goto 4, 3) := by decide +kernel
theorem dX4_toldJourney_78 : decode cX4_toldJourney 78 = .ok (.iconst 0, 1) := by decide +kernel
theorem dX4_toldJourney_79 : decode cX4_toldJourney 79 = .ok (.iadd, 1) := by decide +kernel
theorem dX4_toldJourney_80 : decode cX4_toldJourney 80 = .ok (.istore_n 3, 1) := by decide +kernel
theorem dX4_toldJourney_81 : decode cX4_toldJourney 81 = .ok (.iinc 5 1, 3) := by decide +kernel
theorem dX4_toldJourney_84 : decode cX4_toldJourney 84 = .ok (.goto (-58), 3) := by decide +kernel
theorem dX4_toldJourney_87 : decode cX4_toldJourney 87 = .ok (.iload_n 3, 1) := by decide +kernel
theorem dX4_toldJourney_88 : decode cX4_toldJourney 88 = .ok (.ireturn, 1) := by decide +kernel
set_option maxRecDepth 20000 in
theorem ggX4_journey_X4_noJourney : GoodIn wsX4_journey wsX4_noJourney := goodIn_r _ [6, 7, 8, 9, 5, 10, 11, 12, 13, 14, 1, 34, 35, 36, 37, 38, 39, 40, 41, 42, 43, 44, 45, 46, 47, 48] (by decide +kernel) (by decide +kernel)
set_option maxRecDepth 20000 in
theorem gX4_journey_X4_noJourney : GoodIn wsX4_journey (wsV RX4 238 RX4 yX4_noJourney wsX4_noJourney) := goodIn_app (goodIn_of _ (by decide +kernel)) ggX4_journey_X4_noJourney
set_option maxRecDepth 20000 in
theorem ggX4_journey_X4_in : GoodIn wsX4_journey wsX4_in := goodIn_r _ [10] (by decide +kernel) (by decide +kernel)
set_option maxRecDepth 20000 in
theorem gX4_journey_X4_in : GoodIn wsX4_journey (va_wsS RX4 57 yX4_in wsX4_in) := goodIn_app (goodIn_of _ (by decide +kernel)) ggX4_journey_X4_in
set_option maxRecDepth 20000 in
theorem ggX4_journey_X4_fails : GoodIn wsX4_journey wsX4_fails := goodIn_r _ [14, 1, 34, 35, 36, 37, 38, 39, 40, 41, 42, 43, 44, 45, 46, 47, 48] (by decide +kernel) (by decide +kernel)
set_option maxRecDepth 20000 in
theorem gX4_journey_X4_fails : GoodIn wsX4_journey (wsV RX4 139 RX4 yX4_fails wsX4_fails) := goodIn_app (goodIn_of _ (by decide +kernel)) ggX4_journey_X4_fails
set_option maxRecDepth 20000 in
theorem ggX4_journey_X4_toldJourney : GoodIn wsX4_journey wsX4_toldJourney := goodIn_r _ [18, 7, 19, 20, 21, 5, 22, 23, 24, 25, 26, 27, 28, 29, 30, 31, 32, 33, 34, 35, 36, 37, 38, 39, 40, 41, 42, 43, 44, 45, 46, 47, 48] (by decide +kernel) (by decide +kernel)
set_option maxRecDepth 20000 in
theorem gX4_journey_X4_toldJourney : GoodIn wsX4_journey (wsV RX4 241 RX4 yX4_toldJourney wsX4_toldJourney) := goodIn_app (goodIn_of _ (by decide +kernel)) ggX4_journey_X4_toldJourney
theorem dX4_journey_0 : decode cX4_journey 0 = .ok (.aload_n 0, 1) := by decide +kernel
theorem dX4_journey_1 : decode cX4_journey 1 = .ok (.iconst 0, 1) := by decide +kernel
theorem dX4_journey_2 : decode cX4_journey 2 = .ok (.putfield 35, 3) := by decide +kernel
theorem dX4_journey_5 : decode cX4_journey 5 = .ok (.aload_n 0, 1) := by decide +kernel
theorem dX4_journey_6 : decode cX4_journey 6 = .ok (.iload_n 1, 1) := by decide +kernel
theorem dX4_journey_7 : decode cX4_journey 7 = .ok (.invokevirtual 238, 3) := by decide +kernel
theorem dX4_journey_10 : decode cX4_journey 10 = .ok (.ifCond .ne 26, 3) := by decide +kernel
theorem dX4_journey_13 : decode cX4_journey 13 = .ok (.aload_n 0, 1) := by decide +kernel
theorem dX4_journey_14 : decode cX4_journey 14 = .ok (.iload_n 2, 1) := by decide +kernel
theorem dX4_journey_15 : decode cX4_journey 15 = .ok (.iconst 0, 1) := by decide +kernel
theorem dX4_journey_16 : decode cX4_journey 16 = .ok (.bipush 6, 2) := by decide +kernel
theorem dX4_journey_18 : decode cX4_journey 18 = .ok (.invokestatic 57, 3) := by decide +kernel
theorem dX4_journey_21 : decode cX4_journey 21 = .ok (.ifCond .ne 7, 3) := by decide +kernel
theorem dX4_journey_24 : decode cX4_journey 24 = .ok (.iconst 1, 1) := by decide +kernel
theorem dX4_journey_25 : decode cX4_journey 25 = .ok (.goto 4, 3) := by decide +kernel
theorem dX4_journey_28 : decode cX4_journey 28 = .ok (.iconst 0, 1) := by decide +kernel
theorem dX4_journey_29 : decode cX4_journey 29 = .ok (.iconst 2, 1) := by decide +kernel
theorem dX4_journey_30 : decode cX4_journey 30 = .ok (.invokevirtual 139, 3) := by decide +kernel
theorem dX4_journey_33 : decode cX4_journey 33 = .ok (.ifCond .eq 7, 3) := by decide +kernel
theorem dX4_journey_36 : decode cX4_journey 36 = .ok (.iconst 0, 1) := by decide +kernel
theorem dX4_journey_37 : decode cX4_journey 37 = .ok (.goto 9, 3) := by decide +kernel
theorem dX4_journey_40 : decode cX4_journey 40 = .ok (.aload_n 0, 1) := by decide +kernel
theorem dX4_journey_41 : decode cX4_journey 41 = .ok (.iload_n 1, 1) := by decide +kernel
theorem dX4_journey_42 : decode cX4_journey 42 = .ok (.iload_n 2, 1) := by decide +kernel
theorem dX4_journey_43 : decode cX4_journey 43 = .ok (.invokevirtual 241, 3) := by decide +kernel
theorem dX4_journey_46 : decode cX4_journey 46 = .ok (.ireturn, 1) := by decide +kernel
set_option maxRecDepth 20000 in
theorem ggX4_step_X4_noJourney : GoodIn wsX4_step wsX4_noJourney := goodIn_r _ [7, 2, 8, 9, 6, 10, 11, 12, 13, 14, 1, 26, 27, 28, 29, 30, 31, 32, 33, 34, 35, 36, 37, 38, 39, 40] (by decide +kernel) (by decide +kernel)
set_option maxRecDepth 20000 in
theorem gX4_step_X4_noJourney : GoodIn wsX4_step (wsV RX4 238 RX4 yX4_noJourney wsX4_noJourney) := goodIn_app (goodIn_of _ (by decide +kernel)) ggX4_step_X4_noJourney
set_option maxRecDepth 20000 in
theorem ggX4_step_X4_ofJourney : GoodIn wsX4_step wsX4_ofJourney := goodIn_r _ [18, 2, 19, 20, 6, 21, 26, 27, 28, 29, 30, 31, 32, 33, 34, 35, 36, 37, 38, 39, 40] (by decide +kernel) (by decide +kernel)
set_option maxRecDepth 20000 in
theorem gX4_step_X4_ofJourney : GoodIn wsX4_step (wsV RX4 158 RX4 yX4_ofJourney wsX4_ofJourney) := goodIn_app (goodIn_of _ (by decide +kernel)) ggX4_step_X4_ofJourney
set_option maxRecDepth 20000 in
theorem ggX4_step_X4_in : GoodIn wsX4_step wsX4_in := goodIn_r _ [10] (by decide +kernel) (by decide +kernel)
set_option maxRecDepth 20000 in
theorem gX4_step_X4_in : GoodIn wsX4_step (va_wsS RX4 57 yX4_in wsX4_in) := goodIn_app (goodIn_of _ (by decide +kernel)) ggX4_step_X4_in
set_option maxRecDepth 20000 in
theorem ggX4_step_X4_fails : GoodIn wsX4_step wsX4_fails := goodIn_r _ [14, 1, 26, 27, 28, 29, 30, 31, 32, 33, 34, 35, 36, 37, 38, 39, 40] (by decide +kernel) (by decide +kernel)
set_option maxRecDepth 20000 in
theorem gX4_step_X4_fails : GoodIn wsX4_step (wsV RX4 139 RX4 yX4_fails wsX4_fails) := goodIn_app (goodIn_of _ (by decide +kernel)) ggX4_step_X4_fails
set_option maxRecDepth 20000 in
theorem ggX4_step_X4_stepAt : GoodIn wsX4_step wsX4_stepAt := goodIn_r _ [25, 15, 16, 17, 6, 18, 2, 19, 20, 21, 26, 27, 28, 29, 30, 31, 32, 33, 34, 35, 36, 37, 38, 39, 40] (by decide +kernel) (by decide +kernel)
set_option maxRecDepth 20000 in
theorem gX4_step_X4_stepAt : GoodIn wsX4_step (wsV RX4 161 RX4 yX4_stepAt wsX4_stepAt) := goodIn_app (goodIn_of _ (by decide +kernel)) ggX4_step_X4_stepAt
theorem dX4_step_0 : decode cX4_step 0 = .ok (.aload_n 0, 1) := by decide +kernel
theorem dX4_step_1 : decode cX4_step 1 = .ok (.iconst 0, 1) := by decide +kernel
theorem dX4_step_2 : decode cX4_step 2 = .ok (.putfield 35, 3) := by decide +kernel
theorem dX4_step_5 : decode cX4_step 5 = .ok (.aload_n 0, 1) := by decide +kernel
theorem dX4_step_6 : decode cX4_step 6 = .ok (.iload_n 1, 1) := by decide +kernel
theorem dX4_step_7 : decode cX4_step 7 = .ok (.invokevirtual 238, 3) := by decide +kernel
theorem dX4_step_10 : decode cX4_step 10 = .ok (.ifCond .ne 55, 3) := by decide +kernel
theorem dX4_step_13 : decode cX4_step 13 = .ok (.aload_n 0, 1) := by decide +kernel
theorem dX4_step_14 : decode cX4_step 14 = .ok (.iload_n 2, 1) := by decide +kernel
theorem dX4_step_15 : decode cX4_step 15 = .ok (.iconst 0, 1) := by decide +kernel
theorem dX4_step_16 : decode cX4_step 16 = .ok (.aload_n 0, 1) := by decide +kernel
theorem dX4_step_17 : decode cX4_step 17 = .ok (.iload_n 1, 1) := by decide +kernel
theorem dX4_step_18 : decode cX4_step 18 = .ok (.iconst 3, 1) := by decide +kernel
theorem dX4_step_19 : decode cX4_step 19 = .ok (.invokevirtual 158, 3) := by decide +kernel
theorem dX4_step_22 : decode cX4_step 22 = .ok (.iconst 1, 1) := by decide +kernel
theorem dX4_step_23 : decode cX4_step 23 = .ok (.isub, 1) := by decide +kernel
theorem dX4_step_24 : decode cX4_step 24 = .ok (.invokestatic 57, 3) := by decide +kernel
theorem dX4_step_27 : decode cX4_step 27 = .ok (.ifCond .ne 7, 3) := by decide +kernel
theorem dX4_step_30 : decode cX4_step 30 = .ok (.iconst 1, 1) := by decide +kernel
theorem dX4_step_31 : decode cX4_step 31 = .ok (.goto 4, 3) := by decide +kernel
theorem dX4_step_34 : decode cX4_step 34 = .ok (.iconst 0, 1) := by decide +kernel
theorem dX4_step_35 : decode cX4_step 35 = .ok (.iconst 2, 1) := by decide +kernel
theorem dX4_step_36 : decode cX4_step 36 = .ok (.invokevirtual 139, 3) := by decide +kernel
theorem dX4_step_39 : decode cX4_step 39 = .ok (.ifCond .ne 26, 3) := by decide +kernel
theorem dX4_step_42 : decode cX4_step 42 = .ok (.aload_n 0, 1) := by decide +kernel
theorem dX4_step_43 : decode cX4_step 43 = .ok (.iload_n 3, 1) := by decide +kernel
theorem dX4_step_44 : decode cX4_step 44 = .ok (.iconst 0, 1) := by decide +kernel
theorem dX4_step_45 : decode cX4_step 45 = .ok (.bipush 6, 2) := by decide +kernel
theorem dX4_step_47 : decode cX4_step 47 = .ok (.invokestatic 57, 3) := by decide +kernel
theorem dX4_step_50 : decode cX4_step 50 = .ok (.ifCond .ne 7, 3) := by decide +kernel
theorem dX4_step_53 : decode cX4_step 53 = .ok (.iconst 1, 1) := by decide +kernel
theorem dX4_step_54 : decode cX4_step 54 = .ok (.goto 4, 3) := by decide +kernel
theorem dX4_step_57 : decode cX4_step 57 = .ok (.iconst 0, 1) := by decide +kernel
theorem dX4_step_58 : decode cX4_step 58 = .ok (.iconst 3, 1) := by decide +kernel
theorem dX4_step_59 : decode cX4_step 59 = .ok (.invokevirtual 139, 3) := by decide +kernel
theorem dX4_step_62 : decode cX4_step 62 = .ok (.ifCond .eq 5, 3) := by decide +kernel
theorem dX4_step_65 : decode cX4_step 65 = .ok (.iconst 0, 1) := by decide +kernel
theorem dX4_step_66 : decode cX4_step 66 = .ok (.ireturn, 1) := by decide +kernel
theorem dX4_step_67 : decode cX4_step 67 = .ok (.aload_n 0, 1) := by decide +kernel
theorem dX4_step_68 : decode cX4_step 68 = .ok (.getfield 17, 3) := by decide +kernel
theorem dX4_step_71 : decode cX4_step 71 = .ok (.aload_n 0, 1) := by decide +kernel
theorem dX4_step_72 : decode cX4_step 72 = .ok (.iload_n 1, 1) := by decide +kernel
theorem dX4_step_73 : decode cX4_step 73 = .ok (.iload_n 2, 1) := by decide +kernel
theorem dX4_step_74 : decode cX4_step 74 = .ok (.invokevirtual 161, 3) := by decide +kernel
theorem dX4_step_77 : decode cX4_step 77 = .ok (.iload_n 3, 1) := by decide +kernel
theorem dX4_step_78 : decode cX4_step 78 = .ok (.iadd, 1) := by decide +kernel
theorem dX4_step_79 : decode cX4_step 79 = .ok (.iaload, 1) := by decide +kernel
theorem dX4_step_80 : decode cX4_step 80 = .ok (.ireturn, 1) := by decide +kernel
set_option maxRecDepth 20000 in
theorem ggX4_owed_X4_noJourney : GoodIn wsX4_owed wsX4_noJourney := goodIn_r _ [6, 7, 8, 9, 5, 10, 11, 12, 13, 14, 1, 30, 31, 32, 33, 34, 35, 36, 37, 38, 39, 40, 41, 42, 43, 44] (by decide +kernel) (by decide +kernel)
set_option maxRecDepth 20000 in
theorem gX4_owed_X4_noJourney : GoodIn wsX4_owed (wsV RX4 238 RX4 yX4_noJourney wsX4_noJourney) := goodIn_app (goodIn_of _ (by decide +kernel)) ggX4_owed_X4_noJourney
set_option maxRecDepth 20000 in
theorem ggX4_owed_X4_ofJourney : GoodIn wsX4_owed wsX4_ofJourney := goodIn_r _ [18, 7, 19, 20, 5, 21, 30, 31, 32, 33, 34, 35, 36, 37, 38, 39, 40, 41, 42, 43, 44] (by decide +kernel) (by decide +kernel)
set_option maxRecDepth 20000 in
theorem gX4_owed_X4_ofJourney : GoodIn wsX4_owed (wsV RX4 158 RX4 yX4_ofJourney wsX4_ofJourney) := goodIn_app (goodIn_of _ (by decide +kernel)) ggX4_owed_X4_ofJourney
set_option maxRecDepth 20000 in
theorem ggX4_owed_X4_stateOf : GoodIn wsX4_owed wsX4_stateOf := goodIn_r _ [25, 7, 26, 27, 28, 5, 29, 15, 16, 17, 18, 19, 20, 21, 30, 31, 32, 33, 34, 35, 36, 37, 38, 39, 40, 41, 42, 43, 44] (by decide +kernel) (by decide +kernel)
set_option maxRecDepth 20000 in
theorem gX4_owed_X4_stateOf : GoodIn wsX4_owed (wsV RX4 164 RX4 yX4_stateOf wsX4_stateOf) := goodIn_app (goodIn_of _ (by decide +kernel)) ggX4_owed_X4_stateOf
theorem dX4_owed_0 : decode cX4_owed 0 = .ok (.aload_n 0, 1) := by decide +kernel
theorem dX4_owed_1 : decode cX4_owed 1 = .ok (.iconst 0, 1) := by decide +kernel
theorem dX4_owed_2 : decode cX4_owed 2 = .ok (.putfield 35, 3) := by decide +kernel
theorem dX4_owed_5 : decode cX4_owed 5 = .ok (.aload_n 0, 1) := by decide +kernel
theorem dX4_owed_6 : decode cX4_owed 6 = .ok (.iload_n 1, 1) := by decide +kernel
theorem dX4_owed_7 : decode cX4_owed 7 = .ok (.invokevirtual 238, 3) := by decide +kernel
theorem dX4_owed_10 : decode cX4_owed 10 = .ok (.ifCond .eq 5, 3) := by decide +kernel
theorem dX4_owed_13 : decode cX4_owed 13 = .ok (.iconst 0, 1) := by decide +kernel
theorem dX4_owed_14 : decode cX4_owed 14 = .ok (.ireturn, 1) := by decide +kernel
theorem dX4_owed_15 : decode cX4_owed 15 = .ok (.iload_n 2, 1) := by decide +kernel
theorem dX4_owed_16 : decode cX4_owed 16 = .ok (.istore_n 3, 1) := by decide +kernel
theorem dX4_owed_17 : decode cX4_owed 17 = .ok (.aload_n 0, 1) := by decide +kernel
theorem dX4_owed_18 : decode cX4_owed 18 = .ok (.iload_n 1, 1) := by decide +kernel
theorem dX4_owed_19 : decode cX4_owed 19 = .ok (.iconst 3, 1) := by decide +kernel
theorem dX4_owed_20 : decode cX4_owed 20 = .ok (.invokevirtual 158, 3) := by decide +kernel
theorem dX4_owed_23 : decode cX4_owed 23 = .ok (.iconst 1, 1) := by decide +kernel
theorem dX4_owed_24 : decode cX4_owed 24 = .ok (.isub, 1) := by decide +kernel
theorem dX4_owed_25 : decode cX4_owed 25 = .ok (.istore 4, 2) := by decide +kernel
theorem dX4_owed_27 : decode cX4_owed 27 = .ok (.iload 4, 2) := by decide +kernel
theorem dX4_owed_29 : decode cX4_owed 29 = .ok (.ifCond .lt 37, 3) := by decide +kernel
theorem dX4_owed_32 : decode cX4_owed 32 = .ok (.iload_n 2, 1) := by decide +kernel
theorem dX4_owed_33 : decode cX4_owed 33 = .ok (.ifCond .lt 33, 3) := by decide +kernel
theorem dX4_owed_36 : decode cX4_owed 36 = .ok (.aload_n 0, 1) := by decide +kernel
theorem dX4_owed_37 : decode cX4_owed 37 = .ok (.iload_n 1, 1) := by decide +kernel
theorem dX4_owed_38 : decode cX4_owed 38 = .ok (.iload 4, 2) := by decide +kernel
theorem dX4_owed_40 : decode cX4_owed 40 = .ok (.invokevirtual 164, 3) := by decide +kernel
theorem dX4_owed_43 : decode cX4_owed 43 = .ok (.iconst 3, 1) := by decide +kernel
theorem dX4_owed_44 : decode cX4_owed 44 = .ok (.if_icmp .eq 6, 3) := by decide +kernel
theorem dX4_owed_47 : decode cX4_owed 47 = .ok (.goto 13, 3) := by decide +kernel
theorem dX4_owed_50 : decode cX4_owed 50 = .ok (.iload_n 3, 1) := by decide +kernel
theorem dX4_owed_51 : decode cX4_owed 51 = .ok (.ifCond .ne 6, 3) := by decide +kernel
theorem dX4_owed_54 : decode cX4_owed 54 = .ok (.iload 4, 2) := by decide +kernel
theorem dX4_owed_56 : decode cX4_owed 56 = .ok (.ireturn, 1) := by decide +kernel
theorem dX4_owed_57 : decode cX4_owed 57 = .ok (.iinc 3 (-1), 3) := by decide +kernel
theorem dX4_owed_60 : decode cX4_owed 60 = .ok (.iinc 4 (-1), 3) := by decide +kernel
theorem dX4_owed_63 : decode cX4_owed 63 = .ok (.goto (-36), 3) := by decide +kernel
theorem dX4_owed_66 : decode cX4_owed 66 = .ok (.aload_n 0, 1) := by decide +kernel
theorem dX4_owed_67 : decode cX4_owed 67 = .ok (.iconst 2, 1) := by decide +kernel
theorem dX4_owed_68 : decode cX4_owed 68 = .ok (.putfield 35, 3) := by decide +kernel
theorem dX4_owed_71 : decode cX4_owed 71 = .ok (.iconst 0, 1) := by decide +kernel
theorem dX4_owed_72 : decode cX4_owed 72 = .ok (.ireturn, 1) := by decide +kernel
set_option maxRecDepth 20000 in
theorem ggX4_restsIn_X4_noJourney : GoodIn wsX4_restsIn wsX4_noJourney := goodIn_r _ [8, 2, 9, 10, 7, 11, 12, 13, 14, 15, 1, 114, 115, 116, 117, 118, 119, 120, 121, 122, 123, 124, 125, 126, 127, 128] (by decide +kernel) (by decide +kernel)
set_option maxRecDepth 20000 in
theorem gX4_restsIn_X4_noJourney : GoodIn wsX4_restsIn (wsV RX4 238 RX4 yX4_noJourney wsX4_noJourney) := goodIn_app (goodIn_of _ (by decide +kernel)) ggX4_restsIn_X4_noJourney
set_option maxRecDepth 20000 in
theorem ggX4_restsIn_X4_copy : GoodIn wsX4_restsIn wsX4_copy := goodIn_r _ [18] (by decide +kernel) (by decide +kernel)
set_option maxRecDepth 20000 in
theorem gX4_restsIn_X4_copy : GoodIn wsX4_restsIn (va_wsS RX4 151 yX4_copy wsX4_copy) := goodIn_app (goodIn_of _ (by decide +kernel)) ggX4_restsIn_X4_copy
set_option maxRecDepth 20000 in
theorem ggX4_restsIn_X4_rests : GoodIn wsX4_restsIn wsX4_rests := goodIn_r _ [22, 23, 24, 25, 7, 26, 2, 27, 28, 29, 114, 115, 116, 117, 118, 119, 120, 121, 122, 123, 124, 125, 126, 127, 128] (by decide +kernel) (by decide +kernel)
set_option maxRecDepth 20000 in
theorem gX4_restsIn_X4_rests : GoodIn wsX4_restsIn (wsV RX4 244 RX4 yX4_rests wsX4_rests) := goodIn_app (goodIn_of _ (by decide +kernel)) ggX4_restsIn_X4_rests
set_option maxRecDepth 20000 in
theorem ggX4_restsIn_X4_tick : GoodIn wsX4_restsIn wsX4_tick := goodIn_r _ [33, 2, 27, 28, 7, 29, 23, 24, 25, 26, 34, 35, 36, 37, 38, 39, 40, 41, 42, 43, 44, 45, 46, 47, 48, 49, 50, 51, 52, 53, 54, 55, 56, 57, 58, 59, 60, 61, 62, 63, 64, 65, 66, 67, 68, 69, 70, 71, 72, 73, 74, 75, 76, 77, 78, 79, 80, 81, 82, 83, 84, 85, 86, 87, 88, 89, 90, 91, 92, 93, 94, 95, 96, 97, 98, 99, 100, 101, 102, 103, 104, 105, 106, 107, 108, 109, 110, 111, 112, 113, 114, 115, 116, 117, 118, 119, 120, 121, 122, 123, 124, 125, 126, 127, 128] (by decide +kernel) (by decide +kernel)
set_option maxRecDepth 20000 in
theorem gX4_restsIn_X4_tick : GoodIn wsX4_restsIn (wsV RX4 247 RX4 yX4_tick wsX4_tick) := goodIn_app (goodIn_of _ (by decide +kernel)) ggX4_restsIn_X4_tick
theorem dX4_restsIn_0 : decode cX4_restsIn 0 = .ok (.aload_n 0, 1) := by decide +kernel
theorem dX4_restsIn_1 : decode cX4_restsIn 1 = .ok (.iconst 0, 1) := by decide +kernel
theorem dX4_restsIn_2 : decode cX4_restsIn 2 = .ok (.putfield 35, 3) := by decide +kernel
theorem dX4_restsIn_5 : decode cX4_restsIn 5 = .ok (.aload_n 0, 1) := by decide +kernel
theorem dX4_restsIn_6 : decode cX4_restsIn 6 = .ok (.iload_n 1, 1) := by decide +kernel
theorem dX4_restsIn_7 : decode cX4_restsIn 7 = .ok (.invokevirtual 238, 3) := by decide +kernel
theorem dX4_restsIn_10 : decode cX4_restsIn 10 = .ok (.ifCond .eq 5, 3) := by decide +kernel
theorem dX4_restsIn_13 : decode cX4_restsIn 13 = .ok (.iconst 0, 1) := by decide +kernel
theorem dX4_restsIn_14 : decode cX4_restsIn 14 = .ok (.ireturn, 1) := by decide +kernel
theorem dX4_restsIn_15 : decode cX4_restsIn 15 = .ok (.aload_n 0, 1) := by decide +kernel
theorem dX4_restsIn_16 : decode cX4_restsIn 16 = .ok (.getfield 17, 3) := by decide +kernel
theorem dX4_restsIn_19 : decode cX4_restsIn 19 = .ok (.aload_n 0, 1) := by decide +kernel
theorem dX4_restsIn_20 : decode cX4_restsIn 20 = .ok (.getfield 23, 3) := by decide +kernel
theorem dX4_restsIn_23 : decode cX4_restsIn 23 = .ok (.invokestatic 151, 3) := by decide +kernel
theorem dX4_restsIn_26 : decode cX4_restsIn 26 = .ok (.iconst 0, 1) := by decide +kernel
theorem dX4_restsIn_27 : decode cX4_restsIn 27 = .ok (.istore_n 2, 1) := by decide +kernel
theorem dX4_restsIn_28 : decode cX4_restsIn 28 = .ok (.iload_n 2, 1) := by decide +kernel
theorem dX4_restsIn_29 : decode cX4_restsIn 29 = .ok (.sipush 3000, 3) := by decide +kernel
theorem dX4_restsIn_32 : decode cX4_restsIn 32 = .ok (.if_icmp .ge 21, 3) := by decide +kernel
theorem dX4_restsIn_35 : decode cX4_restsIn 35 = .ok (.aload_n 0, 1) := by decide +kernel
theorem dX4_restsIn_36 : decode cX4_restsIn 36 = .ok (.iload_n 1, 1) := by decide +kernel
theorem dX4_restsIn_37 : decode cX4_restsIn 37 = .ok (.invokevirtual 244, 3) := by decide +kernel
theorem dX4_restsIn_40 : decode cX4_restsIn 40 = .ok (.ifCond .ne 13, 3) := by decide +kernel
theorem dX4_restsIn_43 : decode cX4_restsIn 43 = .ok (.aload_n 0, 1) := by decide +kernel
theorem dX4_restsIn_44 : decode cX4_restsIn 44 = .ok (.invokevirtual 247, 3) := by decide +kernel
theorem dX4_restsIn_47 : decode cX4_restsIn 47 = .ok (.iinc 2 1, 3) := by decide +kernel
theorem dX4_restsIn_50 : decode cX4_restsIn 50 = .ok (.goto (-22), 3) := by decide +kernel
theorem dX4_restsIn_53 : decode cX4_restsIn 53 = .ok (.aload_n 0, 1) := by decide +kernel
theorem dX4_restsIn_54 : decode cX4_restsIn 54 = .ok (.iload_n 1, 1) := by decide +kernel
theorem dX4_restsIn_55 : decode cX4_restsIn 55 = .ok (.invokevirtual 244, 3) := by decide +kernel
theorem dX4_restsIn_58 : decode cX4_restsIn 58 = .ok (.istore_n 3, 1) := by decide +kernel
theorem dX4_restsIn_59 : decode cX4_restsIn 59 = .ok (.aload_n 0, 1) := by decide +kernel
theorem dX4_restsIn_60 : decode cX4_restsIn 60 = .ok (.getfield 23, 3) := by decide +kernel
theorem dX4_restsIn_63 : decode cX4_restsIn 63 = .ok (.aload_n 0, 1) := by decide +kernel
theorem dX4_restsIn_64 : decode cX4_restsIn 64 = .ok (.getfield 17, 3) := by decide +kernel
theorem dX4_restsIn_67 : decode cX4_restsIn 67 = .ok (.invokestatic 151, 3) := by decide +kernel
theorem dX4_restsIn_70 : decode cX4_restsIn 70 = .ok (.iload_n 3, 1) := by decide +kernel
theorem dX4_restsIn_71 : decode cX4_restsIn 71 = .ok (.ifCond .eq 7, 3) := by decide +kernel
theorem dX4_restsIn_74 : decode cX4_restsIn 74 = .ok (.iload_n 2, 1) := by decide +kernel
theorem dX4_restsIn_75 : decode cX4_restsIn 75 = .ok (.goto 4, 3) := by decide +kernel
theorem dX4_restsIn_78 : decode cX4_restsIn 78 = .ok (.iconst (-1), 1) := by decide +kernel
theorem dX4_restsIn_79 : decode cX4_restsIn 79 = .ok (.ireturn, 1) := by decide +kernel
set_option maxRecDepth 20000 in
theorem ggX4_stateAfter_X4_noJourney : GoodIn wsX4_stateAfter wsX4_noJourney := goodIn_r _ [8, 2, 9, 10, 7, 11, 12, 13, 14, 15, 1, 114, 115, 116, 117, 118, 119, 120, 121, 122, 123, 124, 125, 126, 127, 128] (by decide +kernel) (by decide +kernel)
set_option maxRecDepth 20000 in
theorem gX4_stateAfter_X4_noJourney : GoodIn wsX4_stateAfter (wsV RX4 238 RX4 yX4_noJourney wsX4_noJourney) := goodIn_app (goodIn_of _ (by decide +kernel)) ggX4_stateAfter_X4_noJourney
set_option maxRecDepth 20000 in
theorem ggX4_stateAfter_X4_in : GoodIn wsX4_stateAfter wsX4_in := goodIn_r _ [11] (by decide +kernel) (by decide +kernel)
set_option maxRecDepth 20000 in
theorem gX4_stateAfter_X4_in : GoodIn wsX4_stateAfter (va_wsS RX4 57 yX4_in wsX4_in) := goodIn_app (goodIn_of _ (by decide +kernel)) ggX4_stateAfter_X4_in
set_option maxRecDepth 20000 in
theorem ggX4_stateAfter_X4_fails : GoodIn wsX4_stateAfter wsX4_fails := goodIn_r _ [15, 1, 114, 115, 116, 117, 118, 119, 120, 121, 122, 123, 124, 125, 126, 127, 128] (by decide +kernel) (by decide +kernel)
set_option maxRecDepth 20000 in
theorem gX4_stateAfter_X4_fails : GoodIn wsX4_stateAfter (wsV RX4 139 RX4 yX4_fails wsX4_fails) := goodIn_app (goodIn_of _ (by decide +kernel)) ggX4_stateAfter_X4_fails
set_option maxRecDepth 20000 in
theorem ggX4_stateAfter_X4_copy : GoodIn wsX4_stateAfter wsX4_copy := goodIn_r _ [18] (by decide +kernel) (by decide +kernel)
set_option maxRecDepth 20000 in
theorem gX4_stateAfter_X4_copy : GoodIn wsX4_stateAfter (va_wsS RX4 151 yX4_copy wsX4_copy) := goodIn_app (goodIn_of _ (by decide +kernel)) ggX4_stateAfter_X4_copy
set_option maxRecDepth 20000 in
theorem ggX4_stateAfter_X4_rests : GoodIn wsX4_stateAfter wsX4_rests := goodIn_r _ [22, 23, 24, 25, 7, 26, 2, 27, 28, 29, 114, 115, 116, 117, 118, 119, 120, 121, 122, 123, 124, 125, 126, 127, 128] (by decide +kernel) (by decide +kernel)
set_option maxRecDepth 20000 in
theorem gX4_stateAfter_X4_rests : GoodIn wsX4_stateAfter (wsV RX4 244 RX4 yX4_rests wsX4_rests) := goodIn_app (goodIn_of _ (by decide +kernel)) ggX4_stateAfter_X4_rests
set_option maxRecDepth 20000 in
theorem ggX4_stateAfter_X4_tick : GoodIn wsX4_stateAfter wsX4_tick := goodIn_r _ [33, 2, 27, 28, 7, 29, 23, 24, 25, 26, 34, 35, 36, 37, 38, 39, 40, 41, 42, 43, 44, 45, 46, 47, 48, 49, 50, 51, 52, 53, 54, 55, 56, 57, 58, 59, 60, 61, 62, 63, 64, 65, 66, 67, 68, 69, 70, 71, 72, 73, 74, 75, 76, 77, 78, 79, 80, 81, 82, 83, 84, 85, 86, 87, 88, 89, 90, 91, 92, 93, 94, 95, 96, 97, 98, 99, 100, 101, 102, 103, 104, 105, 106, 107, 108, 109, 110, 111, 112, 113, 114, 115, 116, 117, 118, 119, 120, 121, 122, 123, 124, 125, 126, 127, 128] (by decide +kernel) (by decide +kernel)
set_option maxRecDepth 20000 in
theorem gX4_stateAfter_X4_tick : GoodIn wsX4_stateAfter (wsV RX4 247 RX4 yX4_tick wsX4_tick) := goodIn_app (goodIn_of _ (by decide +kernel)) ggX4_stateAfter_X4_tick
set_option maxRecDepth 20000 in
theorem ggX4_stateAfter_X4_ofJourney : GoodIn wsX4_stateAfter wsX4_ofJourney := goodIn_r _ [26, 2, 27, 28, 7, 29, 114, 115, 116, 117, 118, 119, 120, 121, 122, 123, 124, 125, 126, 127, 128] (by decide +kernel) (by decide +kernel)
set_option maxRecDepth 20000 in
theorem gX4_stateAfter_X4_ofJourney : GoodIn wsX4_stateAfter (wsV RX4 158 RX4 yX4_ofJourney wsX4_ofJourney) := goodIn_app (goodIn_of _ (by decide +kernel)) ggX4_stateAfter_X4_ofJourney
theorem dX4_stateAfter_0 : decode cX4_stateAfter 0 = .ok (.aload_n 0, 1) := by decide +kernel
theorem dX4_stateAfter_1 : decode cX4_stateAfter 1 = .ok (.iconst 0, 1) := by decide +kernel
theorem dX4_stateAfter_2 : decode cX4_stateAfter 2 = .ok (.putfield 35, 3) := by decide +kernel
theorem dX4_stateAfter_5 : decode cX4_stateAfter 5 = .ok (.aload_n 0, 1) := by decide +kernel
theorem dX4_stateAfter_6 : decode cX4_stateAfter 6 = .ok (.iload_n 1, 1) := by decide +kernel
theorem dX4_stateAfter_7 : decode cX4_stateAfter 7 = .ok (.invokevirtual 238, 3) := by decide +kernel
theorem dX4_stateAfter_10 : decode cX4_stateAfter 10 = .ok (.ifCond .ne 27, 3) := by decide +kernel
theorem dX4_stateAfter_13 : decode cX4_stateAfter 13 = .ok (.aload_n 0, 1) := by decide +kernel
theorem dX4_stateAfter_14 : decode cX4_stateAfter 14 = .ok (.iload_n 2, 1) := by decide +kernel
theorem dX4_stateAfter_15 : decode cX4_stateAfter 15 = .ok (.iconst 0, 1) := by decide +kernel
theorem dX4_stateAfter_16 : decode cX4_stateAfter 16 = .ok (.sipush 3000, 3) := by decide +kernel
theorem dX4_stateAfter_19 : decode cX4_stateAfter 19 = .ok (.invokestatic 57, 3) := by decide +kernel
theorem dX4_stateAfter_22 : decode cX4_stateAfter 22 = .ok (.ifCond .ne 7, 3) := by decide +kernel
theorem dX4_stateAfter_25 : decode cX4_stateAfter 25 = .ok (.iconst 1, 1) := by decide +kernel
theorem dX4_stateAfter_26 : decode cX4_stateAfter 26 = .ok (.goto 4, 3) := by decide +kernel
theorem dX4_stateAfter_29 : decode cX4_stateAfter 29 = .ok (.iconst 0, 1) := by decide +kernel
theorem dX4_stateAfter_30 : decode cX4_stateAfter 30 = .ok (.iconst 2, 1) := by decide +kernel
theorem dX4_stateAfter_31 : decode cX4_stateAfter 31 = .ok (.invokevirtual 139, 3) := by decide +kernel
theorem dX4_stateAfter_34 : decode cX4_stateAfter 34 = .ok (.ifCond .eq 5, 3) := by decide +kernel
theorem dX4_stateAfter_37 : decode cX4_stateAfter 37 = .ok (.iconst 0, 1) := by decide +kernel
theorem dX4_stateAfter_38 : decode cX4_stateAfter 38 = .ok (.ireturn, 1) := by decide +kernel
theorem dX4_stateAfter_39 : decode cX4_stateAfter 39 = .ok (.aload_n 0, 1) := by decide +kernel
theorem dX4_stateAfter_40 : decode cX4_stateAfter 40 = .ok (.getfield 17, 3) := by decide +kernel
theorem dX4_stateAfter_43 : decode cX4_stateAfter 43 = .ok (.aload_n 0, 1) := by decide +kernel
theorem dX4_stateAfter_44 : decode cX4_stateAfter 44 = .ok (.getfield 23, 3) := by decide +kernel
theorem dX4_stateAfter_47 : decode cX4_stateAfter 47 = .ok (.invokestatic 151, 3) := by decide +kernel
theorem dX4_stateAfter_50 : decode cX4_stateAfter 50 = .ok (.iconst 0, 1) := by decide +kernel
theorem dX4_stateAfter_51 : decode cX4_stateAfter 51 = .ok (.istore_n 3, 1) := by decide +kernel
theorem dX4_stateAfter_52 : decode cX4_stateAfter 52 = .ok (.iload_n 3, 1) := by decide +kernel
theorem dX4_stateAfter_53 : decode cX4_stateAfter 53 = .ok (.iload_n 2, 1) := by decide +kernel
theorem dX4_stateAfter_54 : decode cX4_stateAfter 54 = .ok (.if_icmp .ge 21, 3) := by decide +kernel
theorem dX4_stateAfter_57 : decode cX4_stateAfter 57 = .ok (.aload_n 0, 1) := by decide +kernel
theorem dX4_stateAfter_58 : decode cX4_stateAfter 58 = .ok (.iload_n 1, 1) := by decide +kernel
theorem dX4_stateAfter_59 : decode cX4_stateAfter 59 = .ok (.invokevirtual 244, 3) := by decide +kernel
theorem dX4_stateAfter_62 : decode cX4_stateAfter 62 = .ok (.ifCond .ne 13, 3) := by decide +kernel
theorem dX4_stateAfter_65 : decode cX4_stateAfter 65 = .ok (.aload_n 0, 1) := by decide +kernel
theorem dX4_stateAfter_66 : decode cX4_stateAfter 66 = .ok (.invokevirtual 247, 3) := by decide +kernel
theorem dX4_stateAfter_69 : decode cX4_stateAfter 69 = .ok (.iinc 3 1, 3) := by decide +kernel
theorem dX4_stateAfter_72 : decode cX4_stateAfter 72 = .ok (.goto (-20), 3) := by decide +kernel
theorem dX4_stateAfter_75 : decode cX4_stateAfter 75 = .ok (.aload_n 0, 1) := by decide +kernel
theorem dX4_stateAfter_76 : decode cX4_stateAfter 76 = .ok (.iload_n 1, 1) := by decide +kernel
theorem dX4_stateAfter_77 : decode cX4_stateAfter 77 = .ok (.iconst 0, 1) := by decide +kernel
theorem dX4_stateAfter_78 : decode cX4_stateAfter 78 = .ok (.invokevirtual 158, 3) := by decide +kernel
theorem dX4_stateAfter_81 : decode cX4_stateAfter 81 = .ok (.istore_n 3, 1) := by decide +kernel
theorem dX4_stateAfter_82 : decode cX4_stateAfter 82 = .ok (.aload_n 0, 1) := by decide +kernel
theorem dX4_stateAfter_83 : decode cX4_stateAfter 83 = .ok (.getfield 23, 3) := by decide +kernel
theorem dX4_stateAfter_86 : decode cX4_stateAfter 86 = .ok (.aload_n 0, 1) := by decide +kernel
theorem dX4_stateAfter_87 : decode cX4_stateAfter 87 = .ok (.getfield 17, 3) := by decide +kernel
theorem dX4_stateAfter_90 : decode cX4_stateAfter 90 = .ok (.invokestatic 151, 3) := by decide +kernel
theorem dX4_stateAfter_93 : decode cX4_stateAfter 93 = .ok (.iload_n 3, 1) := by decide +kernel
theorem dX4_stateAfter_94 : decode cX4_stateAfter 94 = .ok (.ireturn, 1) := by decide +kernel
set_option maxRecDepth 20000 in
theorem ggX4_help_X4_noJourney : GoodIn wsX4_help wsX4_noJourney := goodIn_r _ [8, 2, 9, 10, 7, 11, 12, 13, 14, 15, 1, 118, 119, 120, 121, 122, 123, 124, 125, 126, 127, 128, 129, 130, 131, 132] (by decide +kernel) (by decide +kernel)
set_option maxRecDepth 20000 in
theorem gX4_help_X4_noJourney : GoodIn wsX4_help (wsV RX4 238 RX4 yX4_noJourney wsX4_noJourney) := goodIn_app (goodIn_of _ (by decide +kernel)) ggX4_help_X4_noJourney
set_option maxRecDepth 20000 in
theorem ggX4_help_X4_noStock : GoodIn wsX4_help wsX4_noStock := goodIn_r _ [19, 2, 9, 10, 7, 11, 12, 13, 14, 15, 1, 118, 119, 120, 121, 122, 123, 124, 125, 126, 127, 128, 129, 130, 131, 132] (by decide +kernel) (by decide +kernel)
set_option maxRecDepth 20000 in
theorem gX4_help_X4_noStock : GoodIn wsX4_help (wsV RX4 232 RX4 yX4_noStock wsX4_noStock) := goodIn_app (goodIn_of _ (by decide +kernel)) ggX4_help_X4_noStock
set_option maxRecDepth 20000 in
theorem ggX4_help_X4_copy : GoodIn wsX4_help wsX4_copy := goodIn_r _ [22] (by decide +kernel) (by decide +kernel)
set_option maxRecDepth 20000 in
theorem gX4_help_X4_copy : GoodIn wsX4_help (va_wsS RX4 151 yX4_copy wsX4_copy) := goodIn_app (goodIn_of _ (by decide +kernel)) ggX4_help_X4_copy
set_option maxRecDepth 20000 in
theorem ggX4_help_X4_rests : GoodIn wsX4_help wsX4_rests := goodIn_r _ [26, 27, 28, 29, 7, 30, 2, 31, 32, 33, 118, 119, 120, 121, 122, 123, 124, 125, 126, 127, 128, 129, 130, 131, 132] (by decide +kernel) (by decide +kernel)
set_option maxRecDepth 20000 in
theorem gX4_help_X4_rests : GoodIn wsX4_help (wsV RX4 244 RX4 yX4_rests wsX4_rests) := goodIn_app (goodIn_of _ (by decide +kernel)) ggX4_help_X4_rests
set_option maxRecDepth 20000 in
theorem ggX4_help_X4_tick : GoodIn wsX4_help wsX4_tick := goodIn_r _ [37, 2, 31, 32, 7, 33, 27, 28, 29, 30, 38, 39, 40, 41, 42, 43, 44, 45, 46, 47, 48, 49, 50, 51, 52, 53, 54, 55, 56, 57, 58, 59, 60, 61, 62, 63, 64, 65, 66, 67, 68, 69, 70, 71, 72, 73, 74, 75, 76, 77, 78, 79, 80, 81, 82, 83, 84, 85, 86, 87, 88, 89, 90, 91, 92, 93, 94, 95, 96, 97, 98, 99, 100, 101, 102, 103, 104, 105, 106, 107, 108, 109, 110, 111, 112, 113, 114, 115, 116, 117, 118, 119, 120, 121, 122, 123, 124, 125, 126, 127, 128, 129, 130, 131, 132] (by decide +kernel) (by decide +kernel)
set_option maxRecDepth 20000 in
theorem gX4_help_X4_tick : GoodIn wsX4_help (wsV RX4 247 RX4 yX4_tick wsX4_tick) := goodIn_app (goodIn_of _ (by decide +kernel)) ggX4_help_X4_tick
set_option maxRecDepth 20000 in
theorem ggX4_help_X4_ofJourney : GoodIn wsX4_help wsX4_ofJourney := goodIn_r _ [30, 2, 31, 32, 7, 33, 118, 119, 120, 121, 122, 123, 124, 125, 126, 127, 128, 129, 130, 131, 132] (by decide +kernel) (by decide +kernel)
set_option maxRecDepth 20000 in
theorem gX4_help_X4_ofJourney : GoodIn wsX4_help (wsV RX4 158 RX4 yX4_ofJourney wsX4_ofJourney) := goodIn_app (goodIn_of _ (by decide +kernel)) ggX4_help_X4_ofJourney
theorem dX4_help_0 : decode cX4_help 0 = .ok (.aload_n 0, 1) := by decide +kernel
theorem dX4_help_1 : decode cX4_help 1 = .ok (.iconst 0, 1) := by decide +kernel
theorem dX4_help_2 : decode cX4_help 2 = .ok (.putfield 35, 3) := by decide +kernel
theorem dX4_help_5 : decode cX4_help 5 = .ok (.aload_n 0, 1) := by decide +kernel
theorem dX4_help_6 : decode cX4_help 6 = .ok (.iload_n 1, 1) := by decide +kernel
theorem dX4_help_7 : decode cX4_help 7 = .ok (.invokevirtual 238, 3) := by decide +kernel
theorem dX4_help_10 : decode cX4_help 10 = .ok (.ifCond .ne 11, 3) := by decide +kernel
theorem dX4_help_13 : decode cX4_help 13 = .ok (.aload_n 0, 1) := by decide +kernel
theorem dX4_help_14 : decode cX4_help 14 = .ok (.iload_n 2, 1) := by decide +kernel
theorem dX4_help_15 : decode cX4_help 15 = .ok (.invokevirtual 232, 3) := by decide +kernel
theorem dX4_help_18 : decode cX4_help 18 = .ok (.ifCond .eq 5, 3) := by decide +kernel
theorem dX4_help_21 : decode cX4_help 21 = .ok (.iconst 0, 1) := by decide +kernel
theorem dX4_help_22 : decode cX4_help 22 = .ok (.ireturn, 1) := by decide +kernel
theorem dX4_help_23 : decode cX4_help 23 = .ok (.aload_n 0, 1) := by decide +kernel
theorem dX4_help_24 : decode cX4_help 24 = .ok (.getfield 17, 3) := by decide +kernel
theorem dX4_help_27 : decode cX4_help 27 = .ok (.aload_n 0, 1) := by decide +kernel
theorem dX4_help_28 : decode cX4_help 28 = .ok (.getfield 23, 3) := by decide +kernel
theorem dX4_help_31 : decode cX4_help 31 = .ok (.invokestatic 151, 3) := by decide +kernel
theorem dX4_help_34 : decode cX4_help 34 = .ok (.iconst (-1), 1) := by decide +kernel
theorem dX4_help_35 : decode cX4_help 35 = .ok (.istore_n 3, 1) := by decide +kernel
theorem dX4_help_36 : decode cX4_help 36 = .ok (.iconst 0, 1) := by decide +kernel
theorem dX4_help_37 : decode cX4_help 37 = .ok (.istore 4, 2) := by decide +kernel
theorem dX4_help_39 : decode cX4_help 39 = .ok (.iload 4, 2) := by decide +kernel
theorem dX4_help_41 : decode cX4_help 41 = .ok (.sipush 999, 3) := by decide +kernel
theorem dX4_help_44 : decode cX4_help 44 = .ok (.if_icmp .gt 85, 3) := by decide +kernel
theorem dX4_help_47 : decode cX4_help 47 = .ok (.iload_n 3, 1) := by decide +kernel
theorem dX4_help_48 : decode cX4_help 48 = .ok (.iconst (-1), 1) := by decide +kernel
theorem dX4_help_49 : decode cX4_help 49 = .ok (.if_icmp .ne 80, 3) := by decide +kernel
theorem dX4_help_52 : decode cX4_help 52 = .ok (.aload_n 0, 1) := by decide +kernel
theorem dX4_help_53 : decode cX4_help 53 = .ok (.getfield 17, 3) := by decide +kernel
theorem dX4_help_56 : decode cX4_help 56 = .ok (.bipush 7, 2) := by decide +kernel
theorem dX4_help_58 : decode cX4_help 58 = .ok (.iconst 2, 1) := by decide +kernel
theorem dX4_help_59 : decode cX4_help 59 = .ok (.iload_n 2, 1) := by decide +kernel
theorem dX4_help_60 : decode cX4_help 60 = .ok (.imul, 1) := by decide +kernel
theorem dX4_help_61 : decode cX4_help 61 = .ok (.iadd, 1) := by decide +kernel
theorem dX4_help_62 : decode cX4_help 62 = .ok (.iconst 0, 1) := by decide +kernel
theorem dX4_help_63 : decode cX4_help 63 = .ok (.iadd, 1) := by decide +kernel
theorem dX4_help_64 : decode cX4_help 64 = .ok (.dup2, 1) := by decide +kernel
theorem dX4_help_65 : decode cX4_help 65 = .ok (.iaload, 1) := by decide +kernel
theorem dX4_help_66 : decode cX4_help 66 = .ok (.iload 4, 2) := by decide +kernel
theorem dX4_help_68 : decode cX4_help 68 = .ok (.iadd, 1) := by decide +kernel
theorem dX4_help_69 : decode cX4_help 69 = .ok (.iastore, 1) := by decide +kernel
theorem dX4_help_70 : decode cX4_help 70 = .ok (.iconst 0, 1) := by decide +kernel
theorem dX4_help_71 : decode cX4_help 71 = .ok (.istore 5, 2) := by decide +kernel
theorem dX4_help_73 : decode cX4_help 73 = .ok (.iload 5, 2) := by decide +kernel
theorem dX4_help_75 : decode cX4_help 75 = .ok (.sipush 1100, 3) := by decide +kernel
theorem dX4_help_78 : decode cX4_help 78 = .ok (.if_icmp .ge 21, 3) := by decide +kernel
theorem dX4_help_81 : decode cX4_help 81 = .ok (.aload_n 0, 1) := by decide +kernel
theorem dX4_help_82 : decode cX4_help 82 = .ok (.iload_n 1, 1) := by decide +kernel
theorem dX4_help_83 : decode cX4_help 83 = .ok (.invokevirtual 244, 3) := by decide +kernel
theorem dX4_help_86 : decode cX4_help 86 = .ok (.ifCond .ne 13, 3) := by decide +kernel
theorem dX4_help_89 : decode cX4_help 89 = .ok (.aload_n 0, 1) := by decide +kernel
theorem dX4_help_90 : decode cX4_help 90 = .ok (.invokevirtual 247, 3) := by decide +kernel
theorem dX4_help_93 : decode cX4_help 93 = .ok (.iinc 5 1, 3) := by decide +kernel
theorem dX4_help_96 : decode cX4_help 96 = .ok (.goto (-23), 3) := by decide +kernel
theorem dX4_help_99 : decode cX4_help 99 = .ok (.aload_n 0, 1) := by decide +kernel
theorem dX4_help_100 : decode cX4_help 100 = .ok (.iload_n 1, 1) := by decide +kernel
theorem dX4_help_101 : decode cX4_help 101 = .ok (.iconst 0, 1) := by decide +kernel
theorem dX4_help_102 : decode cX4_help 102 = .ok (.invokevirtual 158, 3) := by decide +kernel
theorem dX4_help_105 : decode cX4_help 105 = .ok (.iconst 3, 1) := by decide +kernel
theorem dX4_help_106 : decode cX4_help 106 = .ok (.if_icmp .ne 6, 3) := by decide +kernel
theorem dX4_help_109 : decode cX4_help 109 = .ok (.iload 4, 2) := by decide +kernel
theorem dX4_help_111 : decode cX4_help 111 = .ok (.istore_n 3, 1) := by decide +kernel
theorem dX4_help_112 : decode cX4_help 112 = .ok (.aload_n 0, 1) := by decide +kernel
theorem dX4_help_113 : decode cX4_help 113 = .ok (.getfield 23, 3) := by decide +kernel
theorem dX4_help_116 : decode cX4_help 116 = .ok (.aload_n 0, 1) := by decide +kernel
theorem dX4_help_117 : decode cX4_help 117 = .ok (.getfield 17, 3) := by decide +kernel
theorem dX4_help_120 : decode cX4_help 120 = .ok (.invokestatic 151, 3) := by decide +kernel
theorem dX4_help_123 : decode cX4_help 123 = .ok (.iinc 4 1, 3) := by decide +kernel
theorem dX4_help_126 : decode cX4_help 126 = .ok (.goto (-87), 3) := by decide +kernel
theorem dX4_help_129 : decode cX4_help 129 = .ok (.iload_n 3, 1) := by decide +kernel
theorem dX4_help_130 : decode cX4_help 130 = .ok (.ireturn, 1) := by decide +kernel
set_option maxRecDepth 20000 in
theorem ggX4_remember_X4_copy : GoodIn wsX4_remember wsX4_copy := goodIn_r _ [7] (by decide +kernel) (by decide +kernel)
set_option maxRecDepth 20000 in
theorem gX4_remember_X4_copy : GoodIn wsX4_remember (va_wsS RX4 151 yX4_copy wsX4_copy) := goodIn_app (goodIn_of _ (by decide +kernel)) ggX4_remember_X4_copy
theorem dX4_remember_0 : decode cX4_remember 0 = .ok (.aload_n 0, 1) := by decide +kernel
theorem dX4_remember_1 : decode cX4_remember 1 = .ok (.getfield 250, 3) := by decide +kernel
theorem dX4_remember_4 : decode cX4_remember 4 = .ok (.bipush 8, 2) := by decide +kernel
theorem dX4_remember_6 : decode cX4_remember 6 = .ok (.if_icmp .ne 44, 3) := by decide +kernel
theorem dX4_remember_9 : decode cX4_remember 9 = .ok (.iconst 1, 1) := by decide +kernel
theorem dX4_remember_10 : decode cX4_remember 10 = .ok (.istore_n 1, 1) := by decide +kernel
theorem dX4_remember_11 : decode cX4_remember 11 = .ok (.iload_n 1, 1) := by decide +kernel
theorem dX4_remember_12 : decode cX4_remember 12 = .ok (.bipush 8, 2) := by decide +kernel
theorem dX4_remember_14 : decode cX4_remember 14 = .ok (.if_icmp .ge 26, 3) := by decide +kernel
theorem dX4_remember_17 : decode cX4_remember 17 = .ok (.aload_n 0, 1) := by decide +kernel
theorem dX4_remember_18 : decode cX4_remember 18 = .ok (.getfield 28, 3) := by decide +kernel
theorem dX4_remember_21 : decode cX4_remember 21 = .ok (.iload_n 1, 1) := by decide +kernel
theorem dX4_remember_22 : decode cX4_remember 22 = .ok (.aaload, 1) := by decide +kernel
theorem dX4_remember_23 : decode cX4_remember 23 = .ok (.aload_n 0, 1) := by decide +kernel
theorem dX4_remember_24 : decode cX4_remember 24 = .ok (.getfield 28, 3) := by decide +kernel
theorem dX4_remember_27 : decode cX4_remember 27 = .ok (.iload_n 1, 1) := by decide +kernel
theorem dX4_remember_28 : decode cX4_remember 28 = .ok (.iconst 1, 1) := by decide +kernel
theorem dX4_remember_29 : decode cX4_remember 29 = .ok (.isub, 1) := by decide +kernel
theorem dX4_remember_30 : decode cX4_remember 30 = .ok (.aaload, 1) := by decide +kernel
theorem dX4_remember_31 : decode cX4_remember 31 = .ok (.invokestatic 151, 3) := by decide +kernel
theorem dX4_remember_34 : decode cX4_remember 34 = .ok (.iinc 1 1, 3) := by decide +kernel
theorem dX4_remember_37 : decode cX4_remember 37 = .ok (.goto (-26), 3) := by decide +kernel
theorem dX4_remember_40 : decode cX4_remember 40 = .ok (.aload_n 0, 1) := by decide +kernel
theorem dX4_remember_41 : decode cX4_remember 41 = .ok (.dup, 1) := by decide +kernel
theorem dX4_remember_42 : decode cX4_remember 42 = .ok (.getfield 250, 3) := by decide +kernel
theorem dX4_remember_45 : decode cX4_remember 45 = .ok (.iconst 1, 1) := by decide +kernel
theorem dX4_remember_46 : decode cX4_remember 46 = .ok (.isub, 1) := by decide +kernel
theorem dX4_remember_47 : decode cX4_remember 47 = .ok (.putfield 250, 3) := by decide +kernel
theorem dX4_remember_50 : decode cX4_remember 50 = .ok (.aload_n 0, 1) := by decide +kernel
theorem dX4_remember_51 : decode cX4_remember 51 = .ok (.getfield 17, 3) := by decide +kernel
theorem dX4_remember_54 : decode cX4_remember 54 = .ok (.aload_n 0, 1) := by decide +kernel
theorem dX4_remember_55 : decode cX4_remember 55 = .ok (.getfield 28, 3) := by decide +kernel
theorem dX4_remember_58 : decode cX4_remember 58 = .ok (.aload_n 0, 1) := by decide +kernel
theorem dX4_remember_59 : decode cX4_remember 59 = .ok (.getfield 250, 3) := by decide +kernel
theorem dX4_remember_62 : decode cX4_remember 62 = .ok (.aaload, 1) := by decide +kernel
theorem dX4_remember_63 : decode cX4_remember 63 = .ok (.invokestatic 151, 3) := by decide +kernel
theorem dX4_remember_66 : decode cX4_remember 66 = .ok (.aload_n 0, 1) := by decide +kernel
theorem dX4_remember_67 : decode cX4_remember 67 = .ok (.dup, 1) := by decide +kernel
theorem dX4_remember_68 : decode cX4_remember 68 = .ok (.getfield 250, 3) := by decide +kernel
theorem dX4_remember_71 : decode cX4_remember 71 = .ok (.iconst 1, 1) := by decide +kernel
theorem dX4_remember_72 : decode cX4_remember 72 = .ok (.iadd, 1) := by decide +kernel
theorem dX4_remember_73 : decode cX4_remember 73 = .ok (.putfield 250, 3) := by decide +kernel
theorem dX4_remember_76 : decode cX4_remember 76 = .ok (.return_, 1) := by decide +kernel
set_option maxRecDepth 20000 in
theorem ggX4_pass_X4_in : GoodIn wsX4_pass wsX4_in := goodIn_r _ [6] (by decide +kernel) (by decide +kernel)
set_option maxRecDepth 20000 in
theorem gX4_pass_X4_in : GoodIn wsX4_pass (va_wsS RX4 57 yX4_in wsX4_in) := goodIn_app (goodIn_of _ (by decide +kernel)) ggX4_pass_X4_in
set_option maxRecDepth 20000 in
theorem ggX4_pass_X4_fails : GoodIn wsX4_pass wsX4_fails := goodIn_r _ [10, 1, 115, 116, 117, 118, 119, 120, 121, 122, 123, 124, 125, 126, 127, 128, 129] (by decide +kernel) (by decide +kernel)
set_option maxRecDepth 20000 in
theorem gX4_pass_X4_fails : GoodIn wsX4_pass (wsV RX4 139 RX4 yX4_fails wsX4_fails) := goodIn_app (goodIn_of _ (by decide +kernel)) ggX4_pass_X4_fails
set_option maxRecDepth 20000 in
theorem ggX4_pass_X4_remember : GoodIn wsX4_pass wsX4_remember := goodIn_r _ [14, 15, 16, 2, 17, 18, 5, 19, 115, 116, 117, 118, 119, 120, 121, 122, 123, 124, 125, 126, 127, 128, 129] (by decide +kernel) (by decide +kernel)
set_option maxRecDepth 20000 in
theorem gX4_pass_X4_remember : GoodIn wsX4_pass (wsV RX4 148 RX4 yX4_remember wsX4_remember) := goodIn_app (goodIn_of _ (by decide +kernel)) ggX4_pass_X4_remember
set_option maxRecDepth 20000 in
theorem ggX4_pass_X4_countOf : GoodIn wsX4_pass wsX4_countOf := goodIn_r _ [23, 2, 24, 25, 26, 5, 27, 28, 29, 30, 115, 116, 117, 118, 119, 120, 121, 122, 123, 124, 125, 126, 127, 128, 129] (by decide +kernel) (by decide +kernel)
set_option maxRecDepth 20000 in
theorem gX4_pass_X4_countOf : GoodIn wsX4_pass (wsV RX4 223 RX4 yX4_countOf wsX4_countOf) := goodIn_app (goodIn_of _ (by decide +kernel)) ggX4_pass_X4_countOf
set_option maxRecDepth 20000 in
theorem ggX4_pass_X4_tick : GoodIn wsX4_pass wsX4_tick := goodIn_r _ [34, 2, 28, 29, 5, 30, 24, 25, 26, 27, 35, 36, 37, 38, 39, 40, 41, 42, 43, 44, 45, 46, 47, 48, 49, 50, 51, 52, 53, 54, 55, 56, 57, 58, 59, 60, 61, 62, 63, 64, 65, 66, 67, 68, 69, 70, 71, 72, 73, 74, 75, 76, 77, 78, 79, 80, 81, 82, 83, 84, 85, 86, 87, 88, 89, 90, 91, 92, 93, 94, 95, 96, 97, 98, 99, 100, 101, 102, 103, 104, 105, 106, 107, 108, 109, 110, 111, 112, 113, 114, 115, 116, 117, 118, 119, 120, 121, 122, 123, 124, 125, 126, 127, 128, 129] (by decide +kernel) (by decide +kernel)
set_option maxRecDepth 20000 in
theorem gX4_pass_X4_tick : GoodIn wsX4_pass (wsV RX4 247 RX4 yX4_tick wsX4_tick) := goodIn_app (goodIn_of _ (by decide +kernel)) ggX4_pass_X4_tick
theorem dX4_pass_0 : decode cX4_pass 0 = .ok (.aload_n 0, 1) := by decide +kernel
theorem dX4_pass_1 : decode cX4_pass 1 = .ok (.iconst 0, 1) := by decide +kernel
theorem dX4_pass_2 : decode cX4_pass 2 = .ok (.putfield 35, 3) := by decide +kernel
theorem dX4_pass_5 : decode cX4_pass 5 = .ok (.aload_n 0, 1) := by decide +kernel
theorem dX4_pass_6 : decode cX4_pass 6 = .ok (.iload_n 1, 1) := by decide +kernel
theorem dX4_pass_7 : decode cX4_pass 7 = .ok (.iconst 1, 1) := by decide +kernel
theorem dX4_pass_8 : decode cX4_pass 8 = .ok (.sipush 200, 3) := by decide +kernel
theorem dX4_pass_11 : decode cX4_pass 11 = .ok (.invokestatic 57, 3) := by decide +kernel
theorem dX4_pass_14 : decode cX4_pass 14 = .ok (.ifCond .eq 17, 3) := by decide +kernel
theorem dX4_pass_17 : decode cX4_pass 17 = .ok (.aload_n 0, 1) := by decide +kernel
theorem dX4_pass_18 : decode cX4_pass 18 = .ok (.getfield 17, 3) := by decide +kernel
theorem dX4_pass_21 : decode cX4_pass 21 = .ok (.iconst 0, 1) := by decide +kernel
theorem dX4_pass_22 : decode cX4_pass 22 = .ok (.iaload, 1) := by decide +kernel
theorem dX4_pass_23 : decode cX4_pass 23 = .ok (.iload_n 1, 1) := by decide +kernel
theorem dX4_pass_24 : decode cX4_pass 24 = .ok (.iadd, 1) := by decide +kernel
theorem dX4_pass_25 : decode cX4_pass 25 = .ok (.sipush 9999, 3) := by decide +kernel
theorem dX4_pass_28 : decode cX4_pass 28 = .ok (.if_icmp .le 7, 3) := by decide +kernel
theorem dX4_pass_31 : decode cX4_pass 31 = .ok (.iconst 1, 1) := by decide +kernel
theorem dX4_pass_32 : decode cX4_pass 32 = .ok (.goto 4, 3) := by decide +kernel
theorem dX4_pass_35 : decode cX4_pass 35 = .ok (.iconst 0, 1) := by decide +kernel
theorem dX4_pass_36 : decode cX4_pass 36 = .ok (.iconst 1, 1) := by decide +kernel
theorem dX4_pass_37 : decode cX4_pass 37 = .ok (.invokevirtual 139, 3) := by decide +kernel
theorem dX4_pass_40 : decode cX4_pass 40 = .ok (.ifCond .eq 5, 3) := by decide +kernel
theorem dX4_pass_43 : decode cX4_pass 43 = .ok (.iconst 0, 1) := by decide +kernel
theorem dX4_pass_44 : decode cX4_pass 44 = .ok (.ireturn, 1) := by decide +kernel
theorem dX4_pass_45 : decode cX4_pass 45 = .ok (.aload_n 0, 1) := by decide +kernel
theorem dX4_pass_46 : decode cX4_pass 46 = .ok (.invokevirtual 148, 3) := by decide +kernel
theorem dX4_pass_49 : decode cX4_pass 49 = .ok (.aload_n 0, 1) := by decide +kernel
theorem dX4_pass_50 : decode cX4_pass 50 = .ok (.iconst 3, 1) := by decide +kernel
theorem dX4_pass_51 : decode cX4_pass 51 = .ok (.invokevirtual 223, 3) := by decide +kernel
theorem dX4_pass_54 : decode cX4_pass 54 = .ok (.aload_n 0, 1) := by decide +kernel
theorem dX4_pass_55 : decode cX4_pass 55 = .ok (.iconst 4, 1) := by decide +kernel
theorem dX4_pass_56 : decode cX4_pass 56 = .ok (.invokevirtual 223, 3) := by decide +kernel
theorem dX4_pass_59 : decode cX4_pass 59 = .ok (.iadd, 1) := by decide +kernel
theorem dX4_pass_60 : decode cX4_pass 60 = .ok (.istore_n 2, 1) := by decide +kernel
theorem dX4_pass_61 : decode cX4_pass 61 = .ok (.iconst 0, 1) := by decide +kernel
theorem dX4_pass_62 : decode cX4_pass 62 = .ok (.istore_n 3, 1) := by decide +kernel
theorem dX4_pass_63 : decode cX4_pass 63 = .ok (.iload_n 3, 1) := by decide +kernel
theorem dX4_pass_64 : decode cX4_pass 64 = .ok (.iload_n 1, 1) := by decide +kernel
theorem dX4_pass_65 : decode cX4_pass 65 = .ok (.if_icmp .ge 13, 3) := by decide +kernel
theorem dX4_pass_68 : decode cX4_pass 68 = .ok (.aload_n 0, 1) := by decide +kernel
theorem dX4_pass_69 : decode cX4_pass 69 = .ok (.invokevirtual 247, 3) := by decide +kernel
theorem dX4_pass_72 : decode cX4_pass 72 = .ok (.iinc 3 1, 3) := by decide +kernel
theorem dX4_pass_75 : decode cX4_pass 75 = .ok (.goto (-12), 3) := by decide +kernel
theorem dX4_pass_78 : decode cX4_pass 78 = .ok (.aload_n 0, 1) := by decide +kernel
theorem dX4_pass_79 : decode cX4_pass 79 = .ok (.iconst 3, 1) := by decide +kernel
theorem dX4_pass_80 : decode cX4_pass 80 = .ok (.invokevirtual 223, 3) := by decide +kernel
theorem dX4_pass_83 : decode cX4_pass 83 = .ok (.aload_n 0, 1) := by decide +kernel
theorem dX4_pass_84 : decode cX4_pass 84 = .ok (.iconst 4, 1) := by decide +kernel
theorem dX4_pass_85 : decode cX4_pass 85 = .ok (.invokevirtual 223, 3) := by decide +kernel
theorem dX4_pass_88 : decode cX4_pass 88 = .ok (.iadd, 1) := by decide +kernel
theorem dX4_pass_89 : decode cX4_pass 89 = .ok (.iload_n 2, 1) := by decide +kernel
theorem dX4_pass_90 : decode cX4_pass 90 = .ok (.isub, 1) := by decide +kernel
theorem dX4_pass_91 : decode cX4_pass 91 = .ok (.ireturn, 1) := by decide +kernel
set_option maxRecDepth 20000 in
theorem ggX4_notParked_X4_noJourney : GoodIn wsX4_notParked wsX4_noJourney := goodIn_r _ [5, 6, 7, 8, 4, 9, 10, 11, 12, 13, 14, 22, 23, 24, 25, 26, 27, 28, 29, 30, 31, 32, 33, 34, 35, 36] (by decide +kernel) (by decide +kernel)
set_option maxRecDepth 20000 in
theorem gX4_notParked_X4_noJourney : GoodIn wsX4_notParked (wsV RX4 238 RX4 yX4_noJourney wsX4_noJourney) := goodIn_app (goodIn_of _ (by decide +kernel)) ggX4_notParked_X4_noJourney
set_option maxRecDepth 20000 in
theorem ggX4_notParked_X4_ofJourney : GoodIn wsX4_notParked wsX4_ofJourney := goodIn_r _ [18, 6, 19, 20, 4, 21, 22, 23, 24, 25, 26, 27, 28, 29, 30, 31, 32, 33, 34, 35, 36] (by decide +kernel) (by decide +kernel)
set_option maxRecDepth 20000 in
theorem gX4_notParked_X4_ofJourney : GoodIn wsX4_notParked (wsV RX4 158 RX4 yX4_ofJourney wsX4_ofJourney) := goodIn_app (goodIn_of _ (by decide +kernel)) ggX4_notParked_X4_ofJourney
set_option maxRecDepth 20000 in
theorem ggX4_notParked_X4_fails : GoodIn wsX4_notParked wsX4_fails := goodIn_r _ [13, 14, 22, 23, 24, 25, 26, 27, 28, 29, 30, 31, 32, 33, 34, 35, 36] (by decide +kernel) (by decide +kernel)
set_option maxRecDepth 20000 in
theorem gX4_notParked_X4_fails : GoodIn wsX4_notParked (wsV RX4 139 RX4 yX4_fails wsX4_fails) := goodIn_app (goodIn_of _ (by decide +kernel)) ggX4_notParked_X4_fails
theorem dX4_notParked_0 : decode cX4_notParked 0 = .ok (.aload_n 0, 1) := by decide +kernel
theorem dX4_notParked_1 : decode cX4_notParked 1 = .ok (.iload_n 1, 1) := by decide +kernel
theorem dX4_notParked_2 : decode cX4_notParked 2 = .ok (.invokevirtual 238, 3) := by decide +kernel
theorem dX4_notParked_5 : decode cX4_notParked 5 = .ok (.ifCond .ne 26, 3) := by decide +kernel
theorem dX4_notParked_8 : decode cX4_notParked 8 = .ok (.aload_n 0, 1) := by decide +kernel
theorem dX4_notParked_9 : decode cX4_notParked 9 = .ok (.aload_n 0, 1) := by decide +kernel
theorem dX4_notParked_10 : decode cX4_notParked 10 = .ok (.iload_n 1, 1) := by decide +kernel
theorem dX4_notParked_11 : decode cX4_notParked 11 = .ok (.iconst 0, 1) := by decide +kernel
theorem dX4_notParked_12 : decode cX4_notParked 12 = .ok (.invokevirtual 158, 3) := by decide +kernel
theorem dX4_notParked_15 : decode cX4_notParked 15 = .ok (.iconst 5, 1) := by decide +kernel
theorem dX4_notParked_16 : decode cX4_notParked 16 = .ok (.if_icmp .eq 7, 3) := by decide +kernel
theorem dX4_notParked_19 : decode cX4_notParked 19 = .ok (.iconst 1, 1) := by decide +kernel
theorem dX4_notParked_20 : decode cX4_notParked 20 = .ok (.goto 4, 3) := by decide +kernel
theorem dX4_notParked_23 : decode cX4_notParked 23 = .ok (.iconst 0, 1) := by decide +kernel
theorem dX4_notParked_24 : decode cX4_notParked 24 = .ok (.iconst 2, 1) := by decide +kernel
theorem dX4_notParked_25 : decode cX4_notParked 25 = .ok (.invokevirtual 139, 3) := by decide +kernel
theorem dX4_notParked_28 : decode cX4_notParked 28 = .ok (.ifCond .eq 7, 3) := by decide +kernel
theorem dX4_notParked_31 : decode cX4_notParked 31 = .ok (.iconst 1, 1) := by decide +kernel
theorem dX4_notParked_32 : decode cX4_notParked 32 = .ok (.goto 4, 3) := by decide +kernel
theorem dX4_notParked_35 : decode cX4_notParked 35 = .ok (.iconst 0, 1) := by decide +kernel
theorem dX4_notParked_36 : decode cX4_notParked 36 = .ok (.ireturn, 1) := by decide +kernel
set_option maxRecDepth 20000 in
theorem ggX4_settle_X4_notParked : GoodIn wsX4_settle wsX4_notParked := goodIn_r _ [6, 7, 8, 9, 5, 10, 11, 12, 13, 14, 15, 16, 17, 18, 1, 19, 20, 21, 22, 23, 24, 25, 59, 60, 61, 62, 63, 64, 65, 66, 67, 68, 69, 70, 71, 72, 73] (by decide +kernel) (by decide +kernel)
set_option maxRecDepth 20000 in
theorem gX4_settle_X4_notParked : GoodIn wsX4_settle (wsV RX4 253 RX4 yX4_notParked wsX4_notParked) := goodIn_app (goodIn_of _ (by decide +kernel)) ggX4_settle_X4_notParked
set_option maxRecDepth 20000 in
theorem ggX4_settle_X4_remember : GoodIn wsX4_settle wsX4_remember := goodIn_r _ [29, 30, 31, 11, 32, 33, 5, 34, 59, 60, 61, 62, 63, 64, 65, 66, 67, 68, 69, 70, 71, 72, 73] (by decide +kernel) (by decide +kernel)
set_option maxRecDepth 20000 in
theorem gX4_settle_X4_remember : GoodIn wsX4_settle (wsV RX4 148 RX4 yX4_remember wsX4_remember) := goodIn_app (goodIn_of _ (by decide +kernel)) ggX4_settle_X4_remember
set_option maxRecDepth 20000 in
theorem ggX4_settle_X4_lastDone : GoodIn wsX4_settle wsX4_lastDone := goodIn_r _ [38, 19, 20, 21, 5, 22, 11, 23, 24, 25, 39, 40, 41, 42, 43, 44, 45, 46, 59, 60, 61, 62, 63, 64, 65, 66, 67, 68, 69, 70, 71, 72, 73] (by decide +kernel) (by decide +kernel)
set_option maxRecDepth 20000 in
theorem gX4_settle_X4_lastDone : GoodIn wsX4_settle (wsV RX4 211 RX4 yX4_lastDone wsX4_lastDone) := goodIn_app (goodIn_of _ (by decide +kernel)) ggX4_settle_X4_lastDone
set_option maxRecDepth 20000 in
theorem ggX4_settle_X4_stepAt : GoodIn wsX4_settle wsX4_stepAt := goodIn_r _ [46, 19, 20, 21, 5, 22, 11, 23, 24, 25, 59, 60, 61, 62, 63, 64, 65, 66, 67, 68, 69, 70, 71, 72, 73] (by decide +kernel) (by decide +kernel)
set_option maxRecDepth 20000 in
theorem gX4_settle_X4_stepAt : GoodIn wsX4_settle (wsV RX4 161 RX4 yX4_stepAt wsX4_stepAt) := goodIn_app (goodIn_of _ (by decide +kernel)) ggX4_settle_X4_stepAt
set_option maxRecDepth 20000 in
theorem ggX4_settle_X4_putBack : GoodIn wsX4_settle wsX4_putBack := goodIn_r _ [50, 11, 51, 52, 53, 5, 54, 59, 60, 61, 62, 63, 64, 65, 66, 67, 68, 69, 70, 71, 72, 73] (by decide +kernel) (by decide +kernel)
set_option maxRecDepth 20000 in
theorem gX4_settle_X4_putBack : GoodIn wsX4_settle (wsV RX4 214 RX4 yX4_putBack wsX4_putBack) := goodIn_app (goodIn_of _ (by decide +kernel)) ggX4_settle_X4_putBack
set_option maxRecDepth 20000 in
theorem ggX4_settle_X4_beUndoing : GoodIn wsX4_settle wsX4_beUndoing := goodIn_r _ [58, 11, 23, 24, 5, 25, 59, 60, 61, 62, 63, 64, 65, 66, 67, 68, 69, 70, 71, 72, 73] (by decide +kernel) (by decide +kernel)
set_option maxRecDepth 20000 in
theorem gX4_settle_X4_beUndoing : GoodIn wsX4_settle (wsV RX4 208 RX4 yX4_beUndoing wsX4_beUndoing) := goodIn_app (goodIn_of _ (by decide +kernel)) ggX4_settle_X4_beUndoing
theorem dX4_settle_0 : decode cX4_settle 0 = .ok (.aload_n 0, 1) := by decide +kernel
theorem dX4_settle_1 : decode cX4_settle 1 = .ok (.iconst 0, 1) := by decide +kernel
theorem dX4_settle_2 : decode cX4_settle 2 = .ok (.putfield 35, 3) := by decide +kernel
theorem dX4_settle_5 : decode cX4_settle 5 = .ok (.aload_n 0, 1) := by decide +kernel
theorem dX4_settle_6 : decode cX4_settle 6 = .ok (.iload_n 1, 1) := by decide +kernel
theorem dX4_settle_7 : decode cX4_settle 7 = .ok (.invokevirtual 253, 3) := by decide +kernel
theorem dX4_settle_10 : decode cX4_settle 10 = .ok (.ifCond .eq 5, 3) := by decide +kernel
theorem dX4_settle_13 : decode cX4_settle 13 = .ok (.iconst 0, 1) := by decide +kernel
theorem dX4_settle_14 : decode cX4_settle 14 = .ok (.ireturn, 1) := by decide +kernel
theorem dX4_settle_15 : decode cX4_settle 15 = .ok (.aload_n 0, 1) := by decide +kernel
theorem dX4_settle_16 : decode cX4_settle 16 = .ok (.invokevirtual 148, 3) := by decide +kernel
theorem dX4_settle_19 : decode cX4_settle 19 = .ok (.aload_n 0, 1) := by decide +kernel
theorem dX4_settle_20 : decode cX4_settle 20 = .ok (.iload_n 1, 1) := by decide +kernel
theorem dX4_settle_21 : decode cX4_settle 21 = .ok (.invokevirtual 211, 3) := by decide +kernel
theorem dX4_settle_24 : decode cX4_settle 24 = .ok (.istore_n 2, 1) := by decide +kernel
theorem dX4_settle_25 : decode cX4_settle 25 = .ok (.aload_n 0, 1) := by decide +kernel
theorem dX4_settle_26 : decode cX4_settle 26 = .ok (.aload_n 0, 1) := by decide +kernel
theorem dX4_settle_27 : decode cX4_settle 27 = .ok (.iload_n 1, 1) := by decide +kernel
theorem dX4_settle_28 : decode cX4_settle 28 = .ok (.iload_n 2, 1) := by decide +kernel
theorem dX4_settle_29 : decode cX4_settle 29 = .ok (.invokevirtual 161, 3) := by decide +kernel
theorem dX4_settle_32 : decode cX4_settle 32 = .ok (.invokevirtual 214, 3) := by decide +kernel
theorem dX4_settle_35 : decode cX4_settle 35 = .ok (.aload_n 0, 1) := by decide +kernel
theorem dX4_settle_36 : decode cX4_settle 36 = .ok (.iload_n 1, 1) := by decide +kernel
theorem dX4_settle_37 : decode cX4_settle 37 = .ok (.invokevirtual 208, 3) := by decide +kernel
theorem dX4_settle_40 : decode cX4_settle 40 = .ok (.iload_n 2, 1) := by decide +kernel
theorem dX4_settle_41 : decode cX4_settle 41 = .ok (.ireturn, 1) := by decide +kernel
set_option maxRecDepth 20000 in
theorem ggX4_writeOff_X4_notParked : GoodIn wsX4_writeOff wsX4_notParked := goodIn_r _ [7, 8, 9, 10, 6, 11, 2, 12, 13, 14, 15, 16, 17, 18, 1, 19, 20, 21, 22, 23, 24, 25, 51, 52, 53, 54, 55, 56, 57, 58, 59, 60, 61, 62, 63, 64, 65] (by decide +kernel) (by decide +kernel)
set_option maxRecDepth 20000 in
theorem gX4_writeOff_X4_notParked : GoodIn wsX4_writeOff (wsV RX4 253 RX4 yX4_notParked wsX4_notParked) := goodIn_app (goodIn_of _ (by decide +kernel)) ggX4_writeOff_X4_notParked
set_option maxRecDepth 20000 in
theorem ggX4_writeOff_X4_remember : GoodIn wsX4_writeOff wsX4_remember := goodIn_r _ [29, 30, 31, 2, 32, 33, 6, 34, 51, 52, 53, 54, 55, 56, 57, 58, 59, 60, 61, 62, 63, 64, 65] (by decide +kernel) (by decide +kernel)
set_option maxRecDepth 20000 in
theorem gX4_writeOff_X4_remember : GoodIn wsX4_writeOff (wsV RX4 148 RX4 yX4_remember wsX4_remember) := goodIn_app (goodIn_of _ (by decide +kernel)) ggX4_writeOff_X4_remember
set_option maxRecDepth 20000 in
theorem ggX4_writeOff_X4_lastDone : GoodIn wsX4_writeOff wsX4_lastDone := goodIn_r _ [38, 19, 20, 21, 6, 22, 2, 23, 24, 25, 39, 40, 41, 42, 43, 44, 45, 46, 51, 52, 53, 54, 55, 56, 57, 58, 59, 60, 61, 62, 63, 64, 65] (by decide +kernel) (by decide +kernel)
set_option maxRecDepth 20000 in
theorem gX4_writeOff_X4_lastDone : GoodIn wsX4_writeOff (wsV RX4 211 RX4 yX4_lastDone wsX4_lastDone) := goodIn_app (goodIn_of _ (by decide +kernel)) ggX4_writeOff_X4_lastDone
set_option maxRecDepth 20000 in
theorem ggX4_writeOff_X4_stepAt : GoodIn wsX4_writeOff wsX4_stepAt := goodIn_r _ [46, 19, 20, 21, 6, 22, 2, 23, 24, 25, 51, 52, 53, 54, 55, 56, 57, 58, 59, 60, 61, 62, 63, 64, 65] (by decide +kernel) (by decide +kernel)
set_option maxRecDepth 20000 in
theorem gX4_writeOff_X4_stepAt : GoodIn wsX4_writeOff (wsV RX4 161 RX4 yX4_stepAt wsX4_stepAt) := goodIn_app (goodIn_of _ (by decide +kernel)) ggX4_writeOff_X4_stepAt
set_option maxRecDepth 20000 in
theorem ggX4_writeOff_X4_beUndoing : GoodIn wsX4_writeOff wsX4_beUndoing := goodIn_r _ [50, 2, 23, 24, 6, 25, 51, 52, 53, 54, 55, 56, 57, 58, 59, 60, 61, 62, 63, 64, 65] (by decide +kernel) (by decide +kernel)
set_option maxRecDepth 20000 in
theorem gX4_writeOff_X4_beUndoing : GoodIn wsX4_writeOff (wsV RX4 208 RX4 yX4_beUndoing wsX4_beUndoing) := goodIn_app (goodIn_of _ (by decide +kernel)) ggX4_writeOff_X4_beUndoing
theorem dX4_writeOff_0 : decode cX4_writeOff 0 = .ok (.aload_n 0, 1) := by decide +kernel
theorem dX4_writeOff_1 : decode cX4_writeOff 1 = .ok (.iconst 0, 1) := by decide +kernel
theorem dX4_writeOff_2 : decode cX4_writeOff 2 = .ok (.putfield 35, 3) := by decide +kernel
theorem dX4_writeOff_5 : decode cX4_writeOff 5 = .ok (.aload_n 0, 1) := by decide +kernel
theorem dX4_writeOff_6 : decode cX4_writeOff 6 = .ok (.iload_n 1, 1) := by decide +kernel
theorem dX4_writeOff_7 : decode cX4_writeOff 7 = .ok (.invokevirtual 253, 3) := by decide +kernel
theorem dX4_writeOff_10 : decode cX4_writeOff 10 = .ok (.ifCond .eq 5, 3) := by decide +kernel
theorem dX4_writeOff_13 : decode cX4_writeOff 13 = .ok (.iconst 0, 1) := by decide +kernel
theorem dX4_writeOff_14 : decode cX4_writeOff 14 = .ok (.ireturn, 1) := by decide +kernel
theorem dX4_writeOff_15 : decode cX4_writeOff 15 = .ok (.aload_n 0, 1) := by decide +kernel
theorem dX4_writeOff_16 : decode cX4_writeOff 16 = .ok (.invokevirtual 148, 3) := by decide +kernel
theorem dX4_writeOff_19 : decode cX4_writeOff 19 = .ok (.aload_n 0, 1) := by decide +kernel
theorem dX4_writeOff_20 : decode cX4_writeOff 20 = .ok (.iload_n 1, 1) := by decide +kernel
theorem dX4_writeOff_21 : decode cX4_writeOff 21 = .ok (.invokevirtual 211, 3) := by decide +kernel
theorem dX4_writeOff_24 : decode cX4_writeOff 24 = .ok (.istore_n 2, 1) := by decide +kernel
theorem dX4_writeOff_25 : decode cX4_writeOff 25 = .ok (.aload_n 0, 1) := by decide +kernel
theorem dX4_writeOff_26 : decode cX4_writeOff 26 = .ok (.getfield 17, 3) := by decide +kernel
theorem dX4_writeOff_29 : decode cX4_writeOff 29 = .ok (.aload_n 0, 1) := by decide +kernel
theorem dX4_writeOff_30 : decode cX4_writeOff 30 = .ok (.iload_n 1, 1) := by decide +kernel
theorem dX4_writeOff_31 : decode cX4_writeOff 31 = .ok (.iload_n 2, 1) := by decide +kernel
theorem dX4_writeOff_32 : decode cX4_writeOff 32 = .ok (.invokevirtual 161, 3) := by decide +kernel
theorem dX4_writeOff_35 : decode cX4_writeOff 35 = .ok (.iconst 4, 1) := by decide +kernel
theorem dX4_writeOff_36 : decode cX4_writeOff 36 = .ok (.iadd, 1) := by decide +kernel
theorem dX4_writeOff_37 : decode cX4_writeOff 37 = .ok (.bipush 6, 2) := by decide +kernel
theorem dX4_writeOff_39 : decode cX4_writeOff 39 = .ok (.iastore, 1) := by decide +kernel
theorem dX4_writeOff_40 : decode cX4_writeOff 40 = .ok (.aload_n 0, 1) := by decide +kernel
theorem dX4_writeOff_41 : decode cX4_writeOff 41 = .ok (.iload_n 1, 1) := by decide +kernel
theorem dX4_writeOff_42 : decode cX4_writeOff 42 = .ok (.invokevirtual 208, 3) := by decide +kernel
theorem dX4_writeOff_45 : decode cX4_writeOff 45 = .ok (.iload_n 2, 1) := by decide +kernel
theorem dX4_writeOff_46 : decode cX4_writeOff 46 = .ok (.ireturn, 1) := by decide +kernel
set_option maxRecDepth 20000 in
theorem ggX4_goForward_X4_notParked : GoodIn wsX4_goForward wsX4_notParked := goodIn_r _ [7, 8, 9, 10, 6, 11, 2, 12, 13, 14, 15, 16, 17, 18, 1, 19, 20, 21, 22, 23, 24, 25, 63, 64, 65, 66, 67, 68, 69, 70, 71, 72, 73, 74, 75, 76, 77] (by decide +kernel) (by decide +kernel)
set_option maxRecDepth 20000 in
theorem gX4_goForward_X4_notParked : GoodIn wsX4_goForward (wsV RX4 253 RX4 yX4_notParked wsX4_notParked) := goodIn_app (goodIn_of _ (by decide +kernel)) ggX4_goForward_X4_notParked
set_option maxRecDepth 20000 in
theorem ggX4_goForward_X4_remember : GoodIn wsX4_goForward wsX4_remember := goodIn_r _ [29, 30, 31, 2, 32, 33, 6, 34, 63, 64, 65, 66, 67, 68, 69, 70, 71, 72, 73, 74, 75, 76, 77] (by decide +kernel) (by decide +kernel)
set_option maxRecDepth 20000 in
theorem gX4_goForward_X4_remember : GoodIn wsX4_goForward (wsV RX4 148 RX4 yX4_remember wsX4_remember) := goodIn_app (goodIn_of _ (by decide +kernel)) ggX4_goForward_X4_remember
set_option maxRecDepth 20000 in
theorem ggX4_goForward_X4_ofJourney : GoodIn wsX4_goForward wsX4_ofJourney := goodIn_r _ [22, 2, 23, 24, 6, 25, 63, 64, 65, 66, 67, 68, 69, 70, 71, 72, 73, 74, 75, 76, 77] (by decide +kernel) (by decide +kernel)
set_option maxRecDepth 20000 in
theorem gX4_goForward_X4_ofJourney : GoodIn wsX4_goForward (wsV RX4 158 RX4 yX4_ofJourney wsX4_ofJourney) := goodIn_app (goodIn_of _ (by decide +kernel)) ggX4_goForward_X4_ofJourney
set_option maxRecDepth 20000 in
theorem ggX4_goForward_X4_isOver : GoodIn wsX4_goForward wsX4_isOver := goodIn_r _ [38, 19, 20, 21, 6, 22, 2, 23, 24, 25, 39, 40, 41, 42, 43, 44, 45, 46, 47, 48, 49, 50, 51, 52, 53, 54, 63, 64, 65, 66, 67, 68, 69, 70, 71, 72, 73, 74, 75, 76, 77] (by decide +kernel) (by decide +kernel)
set_option maxRecDepth 20000 in
theorem gX4_goForward_X4_isOver : GoodIn wsX4_goForward (wsV RX4 195 RX4 yX4_isOver wsX4_isOver) := goodIn_app (goodIn_of _ (by decide +kernel)) ggX4_goForward_X4_isOver
set_option maxRecDepth 20000 in
theorem ggX4_goForward_X4_stepAt : GoodIn wsX4_goForward wsX4_stepAt := goodIn_r _ [46, 19, 20, 21, 6, 22, 2, 23, 24, 25, 63, 64, 65, 66, 67, 68, 69, 70, 71, 72, 73, 74, 75, 76, 77] (by decide +kernel) (by decide +kernel)
set_option maxRecDepth 20000 in
theorem gX4_goForward_X4_stepAt : GoodIn wsX4_goForward (wsV RX4 161 RX4 yX4_stepAt wsX4_stepAt) := goodIn_app (goodIn_of _ (by decide +kernel)) ggX4_goForward_X4_stepAt
set_option maxRecDepth 20000 in
theorem ggX4_goForward_X4_isSettled : GoodIn wsX4_goForward wsX4_isSettled := goodIn_r _ [50, 51, 52, 53, 6, 54, 2, 43, 44, 45, 46, 19, 20, 21, 22, 23, 24, 25, 63, 64, 65, 66, 67, 68, 69, 70, 71, 72, 73, 74, 75, 76, 77] (by decide +kernel) (by decide +kernel)
set_option maxRecDepth 20000 in
theorem gX4_goForward_X4_isSettled : GoodIn wsX4_goForward (wsV RX4 189 RX4 yX4_isSettled wsX4_isSettled) := goodIn_app (goodIn_of _ (by decide +kernel)) ggX4_goForward_X4_isSettled
set_option maxRecDepth 20000 in
theorem ggX4_goForward_X4_journeyAt : GoodIn wsX4_goForward wsX4_journeyAt := goodIn_r _ [25] (by decide +kernel) (by decide +kernel)
set_option maxRecDepth 20000 in
theorem gX4_goForward_X4_journeyAt : GoodIn wsX4_goForward (va_wsS RX4 155 yX4_journeyAt wsX4_journeyAt) := goodIn_app (goodIn_of _ (by decide +kernel)) ggX4_goForward_X4_journeyAt
set_option maxRecDepth 20000 in
theorem ggX4_goForward_X4_present : GoodIn wsX4_goForward wsX4_present := goodIn_r _ [58, 2, 23, 24, 6, 25, 19, 20, 21, 22, 43, 44, 45, 46, 59, 60, 61, 62, 63, 64, 65, 66, 67, 68, 69, 70, 71, 72, 73, 74, 75, 76, 77] (by decide +kernel) (by decide +kernel)
set_option maxRecDepth 20000 in
theorem gX4_goForward_X4_present : GoodIn wsX4_goForward (wsV RX4 201 RX4 yX4_present wsX4_present) := goodIn_app (goodIn_of _ (by decide +kernel)) ggX4_goForward_X4_present
theorem dX4_goForward_0 : decode cX4_goForward 0 = .ok (.aload_n 0, 1) := by decide +kernel
theorem dX4_goForward_1 : decode cX4_goForward 1 = .ok (.iconst 0, 1) := by decide +kernel
theorem dX4_goForward_2 : decode cX4_goForward 2 = .ok (.putfield 35, 3) := by decide +kernel
theorem dX4_goForward_5 : decode cX4_goForward 5 = .ok (.aload_n 0, 1) := by decide +kernel
theorem dX4_goForward_6 : decode cX4_goForward 6 = .ok (.iload_n 1, 1) := by decide +kernel
theorem dX4_goForward_7 : decode cX4_goForward 7 = .ok (.invokevirtual 253, 3) := by decide +kernel
theorem dX4_goForward_10 : decode cX4_goForward 10 = .ok (.ifCond .eq 5, 3) := by decide +kernel
theorem dX4_goForward_13 : decode cX4_goForward 13 = .ok (.iconst 0, 1) := by decide +kernel
theorem dX4_goForward_14 : decode cX4_goForward 14 = .ok (.ireturn, 1) := by decide +kernel
theorem dX4_goForward_15 : decode cX4_goForward 15 = .ok (.aload_n 0, 1) := by decide +kernel
theorem dX4_goForward_16 : decode cX4_goForward 16 = .ok (.invokevirtual 148, 3) := by decide +kernel
theorem dX4_goForward_19 : decode cX4_goForward 19 = .ok (.iconst 0, 1) := by decide +kernel
theorem dX4_goForward_20 : decode cX4_goForward 20 = .ok (.istore_n 2, 1) := by decide +kernel
theorem dX4_goForward_21 : decode cX4_goForward 21 = .ok (.iload_n 2, 1) := by decide +kernel
theorem dX4_goForward_22 : decode cX4_goForward 22 = .ok (.aload_n 0, 1) := by decide +kernel
theorem dX4_goForward_23 : decode cX4_goForward 23 = .ok (.iload_n 1, 1) := by decide +kernel
theorem dX4_goForward_24 : decode cX4_goForward 24 = .ok (.iconst 2, 1) := by decide +kernel
theorem dX4_goForward_25 : decode cX4_goForward 25 = .ok (.invokevirtual 158, 3) := by decide +kernel
theorem dX4_goForward_28 : decode cX4_goForward 28 = .ok (.if_icmp .ge 18, 3) := by decide +kernel
theorem dX4_goForward_31 : decode cX4_goForward 31 = .ok (.aload_n 0, 1) := by decide +kernel
theorem dX4_goForward_32 : decode cX4_goForward 32 = .ok (.iload_n 1, 1) := by decide +kernel
theorem dX4_goForward_33 : decode cX4_goForward 33 = .ok (.iload_n 2, 1) := by decide +kernel
theorem dX4_goForward_34 : decode cX4_goForward 34 = .ok (.invokevirtual 195, 3) := by decide +kernel
theorem dX4_goForward_37 : decode cX4_goForward 37 = .ok (.ifCond .eq 9, 3) := by decide +kernel
theorem dX4_goForward_40 : decode cX4_goForward 40 = .ok (.iinc 2 1, 3) := by decide +kernel
theorem dX4_goForward_43 : decode cX4_goForward 43 = .ok (.goto (-22), 3) := by decide +kernel
theorem dX4_goForward_46 : decode cX4_goForward 46 = .ok (.iload_n 2, 1) := by decide +kernel
theorem dX4_goForward_47 : decode cX4_goForward 47 = .ok (.aload_n 0, 1) := by decide +kernel
theorem dX4_goForward_48 : decode cX4_goForward 48 = .ok (.iload_n 1, 1) := by decide +kernel
theorem dX4_goForward_49 : decode cX4_goForward 49 = .ok (.iconst 2, 1) := by decide +kernel
theorem dX4_goForward_50 : decode cX4_goForward 50 = .ok (.invokevirtual 158, 3) := by decide +kernel
theorem dX4_goForward_53 : decode cX4_goForward 53 = .ok (.if_icmp .ne 5, 3) := by decide +kernel
theorem dX4_goForward_56 : decode cX4_goForward 56 = .ok (.iconst (-1), 1) := by decide +kernel
theorem dX4_goForward_57 : decode cX4_goForward 57 = .ok (.ireturn, 1) := by decide +kernel
theorem dX4_goForward_58 : decode cX4_goForward 58 = .ok (.iconst 0, 1) := by decide +kernel
theorem dX4_goForward_59 : decode cX4_goForward 59 = .ok (.istore_n 3, 1) := by decide +kernel
theorem dX4_goForward_60 : decode cX4_goForward 60 = .ok (.iload_n 3, 1) := by decide +kernel
theorem dX4_goForward_61 : decode cX4_goForward 61 = .ok (.aload_n 0, 1) := by decide +kernel
theorem dX4_goForward_62 : decode cX4_goForward 62 = .ok (.iload_n 1, 1) := by decide +kernel
theorem dX4_goForward_63 : decode cX4_goForward 63 = .ok (.iconst 3, 1) := by decide +kernel
theorem dX4_goForward_64 : decode cX4_goForward 64 = .ok (.invokevirtual 158, 3) := by decide +kernel
theorem dX4_goForward_67 : decode cX4_goForward 67 = .ok (.if_icmp .ge 72, 3) := by decide +kernel
theorem dX4_goForward_70 : decode cX4_goForward 70 = .ok (.aload_n 0, 1) := by decide +kernel
theorem dX4_goForward_71 : decode cX4_goForward 71 = .ok (.iload_n 1, 1) := by decide +kernel
theorem dX4_goForward_72 : decode cX4_goForward 72 = .ok (.iload_n 3, 1) := by decide +kernel
theorem dX4_goForward_73 : decode cX4_goForward 73 = .ok (.invokevirtual 161, 3) := by decide +kernel
theorem dX4_goForward_76 : decode cX4_goForward 76 = .ok (.istore 4, 2) := by decide +kernel
theorem dX4_goForward_78 : decode cX4_goForward 78 = .ok (.aload_n 0, 1) := by decide +kernel
theorem dX4_goForward_79 : decode cX4_goForward 79 = .ok (.iload_n 1, 1) := by decide +kernel
theorem dX4_goForward_80 : decode cX4_goForward 80 = .ok (.iload_n 3, 1) := by decide +kernel
theorem dX4_goForward_81 : decode cX4_goForward 81 = .ok (.invokevirtual 189, 3) := by decide +kernel
theorem dX4_goForward_84 : decode cX4_goForward 84 = .ok (.ifCond .ne 49, 3) := by decide +kernel
theorem dX4_goForward_87 : decode cX4_goForward 87 = .ok (.aload_n 0, 1) := by decide +kernel
theorem dX4_goForward_88 : decode cX4_goForward 88 = .ok (.getfield 17, 3) := by decide +kernel
theorem dX4_goForward_91 : decode cX4_goForward 91 = .ok (.iload 4, 2) := by decide +kernel
theorem dX4_goForward_93 : decode cX4_goForward 93 = .ok (.iconst 0, 1) := by decide +kernel
theorem dX4_goForward_94 : decode cX4_goForward 94 = .ok (.iadd, 1) := by decide +kernel
theorem dX4_goForward_95 : decode cX4_goForward 95 = .ok (.iaload, 1) := by decide +kernel
theorem dX4_goForward_96 : decode cX4_goForward 96 = .ok (.iload_n 2, 1) := by decide +kernel
theorem dX4_goForward_97 : decode cX4_goForward 97 = .ok (.if_icmp .ge 6, 3) := by decide +kernel
theorem dX4_goForward_100 : decode cX4_goForward 100 = .ok (.goto 33, 3) := by decide +kernel
theorem dX4_goForward_103 : decode cX4_goForward 103 = .ok (.aload_n 0, 1) := by decide +kernel
theorem dX4_goForward_104 : decode cX4_goForward 104 = .ok (.getfield 17, 3) := by decide +kernel
theorem dX4_goForward_107 : decode cX4_goForward 107 = .ok (.iload 4, 2) := by decide +kernel
theorem dX4_goForward_109 : decode cX4_goForward 109 = .ok (.iconst 4, 1) := by decide +kernel
theorem dX4_goForward_110 : decode cX4_goForward 110 = .ok (.iadd, 1) := by decide +kernel
theorem dX4_goForward_111 : decode cX4_goForward 111 = .ok (.iconst 0, 1) := by decide +kernel
theorem dX4_goForward_112 : decode cX4_goForward 112 = .ok (.iastore, 1) := by decide +kernel
theorem dX4_goForward_113 : decode cX4_goForward 113 = .ok (.aload_n 0, 1) := by decide +kernel
theorem dX4_goForward_114 : decode cX4_goForward 114 = .ok (.getfield 17, 3) := by decide +kernel
theorem dX4_goForward_117 : decode cX4_goForward 117 = .ok (.iload 4, 2) := by decide +kernel
theorem dX4_goForward_119 : decode cX4_goForward 119 = .ok (.bipush 6, 2) := by decide +kernel
theorem dX4_goForward_121 : decode cX4_goForward 121 = .ok (.iadd, 1) := by decide +kernel
theorem dX4_goForward_122 : decode cX4_goForward 122 = .ok (.aload_n 0, 1) := by decide +kernel
theorem dX4_goForward_123 : decode cX4_goForward 123 = .ok (.getfield 17, 3) := by decide +kernel
theorem dX4_goForward_126 : decode cX4_goForward 126 = .ok (.iload 4, 2) := by decide +kernel
theorem dX4_goForward_128 : decode cX4_goForward 128 = .ok (.bipush 7, 2) := by decide +kernel
theorem dX4_goForward_130 : decode cX4_goForward 130 = .ok (.iadd, 1) := by decide +kernel
theorem dX4_goForward_131 : decode cX4_goForward 131 = .ok (.iaload, 1) := by decide +kernel
theorem dX4_goForward_132 : decode cX4_goForward 132 = .ok (.iastore, 1) := by decide +kernel
theorem dX4_goForward_133 : decode cX4_goForward 133 = .ok (.iinc 3 1, 3) := by decide +kernel
theorem dX4_goForward_136 : decode cX4_goForward 136 = .ok (.goto (-76), 3) := by decide +kernel
theorem dX4_goForward_139 : decode cX4_goForward 139 = .ok (.aload_n 0, 1) := by decide +kernel
theorem dX4_goForward_140 : decode cX4_goForward 140 = .ok (.getfield 17, 3) := by decide +kernel
theorem dX4_goForward_143 : decode cX4_goForward 143 = .ok (.iload_n 1, 1) := by decide +kernel
theorem dX4_goForward_144 : decode cX4_goForward 144 = .ok (.invokestatic 155, 3) := by decide +kernel
theorem dX4_goForward_147 : decode cX4_goForward 147 = .ok (.iconst 0, 1) := by decide +kernel
theorem dX4_goForward_148 : decode cX4_goForward 148 = .ok (.iadd, 1) := by decide +kernel
theorem dX4_goForward_149 : decode cX4_goForward 149 = .ok (.iconst 1, 1) := by decide +kernel
theorem dX4_goForward_150 : decode cX4_goForward 150 = .ok (.iastore, 1) := by decide +kernel
theorem dX4_goForward_151 : decode cX4_goForward 151 = .ok (.aload_n 0, 1) := by decide +kernel
theorem dX4_goForward_152 : decode cX4_goForward 152 = .ok (.getfield 17, 3) := by decide +kernel
theorem dX4_goForward_155 : decode cX4_goForward 155 = .ok (.iload_n 1, 1) := by decide +kernel
theorem dX4_goForward_156 : decode cX4_goForward 156 = .ok (.invokestatic 155, 3) := by decide +kernel
theorem dX4_goForward_159 : decode cX4_goForward 159 = .ok (.iconst 5, 1) := by decide +kernel
theorem dX4_goForward_160 : decode cX4_goForward 160 = .ok (.iadd, 1) := by decide +kernel
theorem dX4_goForward_161 : decode cX4_goForward 161 = .ok (.iconst (-1), 1) := by decide +kernel
theorem dX4_goForward_162 : decode cX4_goForward 162 = .ok (.iastore, 1) := by decide +kernel
theorem dX4_goForward_163 : decode cX4_goForward 163 = .ok (.aload_n 0, 1) := by decide +kernel
theorem dX4_goForward_164 : decode cX4_goForward 164 = .ok (.iload_n 1, 1) := by decide +kernel
theorem dX4_goForward_165 : decode cX4_goForward 165 = .ok (.iload_n 2, 1) := by decide +kernel
theorem dX4_goForward_166 : decode cX4_goForward 166 = .ok (.invokevirtual 201, 3) := by decide +kernel
theorem dX4_goForward_169 : decode cX4_goForward 169 = .ok (.iload_n 2, 1) := by decide +kernel
theorem dX4_goForward_170 : decode cX4_goForward 170 = .ok (.ireturn, 1) := by decide +kernel
set_option maxRecDepth 20000 in
theorem ggX4_restock_X4_noStock : GoodIn wsX4_restock wsX4_noStock := goodIn_r _ [7, 2, 8, 9, 6, 10, 11, 12, 13, 14, 1, 24, 25, 26, 27, 28, 29, 30, 31, 32, 33, 34, 35, 36, 37, 38] (by decide +kernel) (by decide +kernel)
set_option maxRecDepth 20000 in
theorem gX4_restock_X4_noStock : GoodIn wsX4_restock (wsV RX4 232 RX4 yX4_noStock wsX4_noStock) := goodIn_app (goodIn_of _ (by decide +kernel)) ggX4_restock_X4_noStock
set_option maxRecDepth 20000 in
theorem ggX4_restock_X4_in : GoodIn wsX4_restock wsX4_in := goodIn_r _ [10] (by decide +kernel) (by decide +kernel)
set_option maxRecDepth 20000 in
theorem gX4_restock_X4_in : GoodIn wsX4_restock (va_wsS RX4 57 yX4_in wsX4_in) := goodIn_app (goodIn_of _ (by decide +kernel)) ggX4_restock_X4_in
set_option maxRecDepth 20000 in
theorem ggX4_restock_X4_fails : GoodIn wsX4_restock wsX4_fails := goodIn_r _ [14, 1, 24, 25, 26, 27, 28, 29, 30, 31, 32, 33, 34, 35, 36, 37, 38] (by decide +kernel) (by decide +kernel)
set_option maxRecDepth 20000 in
theorem gX4_restock_X4_fails : GoodIn wsX4_restock (wsV RX4 139 RX4 yX4_fails wsX4_fails) := goodIn_app (goodIn_of _ (by decide +kernel)) ggX4_restock_X4_fails
set_option maxRecDepth 20000 in
theorem ggX4_restock_X4_remember : GoodIn wsX4_restock wsX4_remember := goodIn_r _ [18, 19, 20, 2, 21, 22, 6, 23, 24, 25, 26, 27, 28, 29, 30, 31, 32, 33, 34, 35, 36, 37, 38] (by decide +kernel) (by decide +kernel)
set_option maxRecDepth 20000 in
theorem gX4_restock_X4_remember : GoodIn wsX4_restock (wsV RX4 148 RX4 yX4_remember wsX4_remember) := goodIn_app (goodIn_of _ (by decide +kernel)) ggX4_restock_X4_remember
theorem dX4_restock_0 : decode cX4_restock 0 = .ok (.aload_n 0, 1) := by decide +kernel
theorem dX4_restock_1 : decode cX4_restock 1 = .ok (.iconst 0, 1) := by decide +kernel
theorem dX4_restock_2 : decode cX4_restock 2 = .ok (.putfield 35, 3) := by decide +kernel
theorem dX4_restock_5 : decode cX4_restock 5 = .ok (.aload_n 0, 1) := by decide +kernel
theorem dX4_restock_6 : decode cX4_restock 6 = .ok (.iload_n 1, 1) := by decide +kernel
theorem dX4_restock_7 : decode cX4_restock 7 = .ok (.invokevirtual 232, 3) := by decide +kernel
theorem dX4_restock_10 : decode cX4_restock 10 = .ok (.ifCond .ne 27, 3) := by decide +kernel
theorem dX4_restock_13 : decode cX4_restock 13 = .ok (.aload_n 0, 1) := by decide +kernel
theorem dX4_restock_14 : decode cX4_restock 14 = .ok (.iload_n 2, 1) := by decide +kernel
theorem dX4_restock_15 : decode cX4_restock 15 = .ok (.iconst 1, 1) := by decide +kernel
theorem dX4_restock_16 : decode cX4_restock 16 = .ok (.sipush 999, 3) := by decide +kernel
theorem dX4_restock_19 : decode cX4_restock 19 = .ok (.invokestatic 57, 3) := by decide +kernel
theorem dX4_restock_22 : decode cX4_restock 22 = .ok (.ifCond .ne 7, 3) := by decide +kernel
theorem dX4_restock_25 : decode cX4_restock 25 = .ok (.iconst 1, 1) := by decide +kernel
theorem dX4_restock_26 : decode cX4_restock 26 = .ok (.goto 4, 3) := by decide +kernel
theorem dX4_restock_29 : decode cX4_restock 29 = .ok (.iconst 0, 1) := by decide +kernel
theorem dX4_restock_30 : decode cX4_restock 30 = .ok (.iconst 2, 1) := by decide +kernel
theorem dX4_restock_31 : decode cX4_restock 31 = .ok (.invokevirtual 139, 3) := by decide +kernel
theorem dX4_restock_34 : decode cX4_restock 34 = .ok (.ifCond .eq 5, 3) := by decide +kernel
theorem dX4_restock_37 : decode cX4_restock 37 = .ok (.iconst 0, 1) := by decide +kernel
theorem dX4_restock_38 : decode cX4_restock 38 = .ok (.ireturn, 1) := by decide +kernel
theorem dX4_restock_39 : decode cX4_restock 39 = .ok (.aload_n 0, 1) := by decide +kernel
theorem dX4_restock_40 : decode cX4_restock 40 = .ok (.invokevirtual 148, 3) := by decide +kernel
theorem dX4_restock_43 : decode cX4_restock 43 = .ok (.aload_n 0, 1) := by decide +kernel
theorem dX4_restock_44 : decode cX4_restock 44 = .ok (.getfield 17, 3) := by decide +kernel
theorem dX4_restock_47 : decode cX4_restock 47 = .ok (.bipush 7, 2) := by decide +kernel
theorem dX4_restock_49 : decode cX4_restock 49 = .ok (.iconst 2, 1) := by decide +kernel
theorem dX4_restock_50 : decode cX4_restock 50 = .ok (.iload_n 1, 1) := by decide +kernel
theorem dX4_restock_51 : decode cX4_restock 51 = .ok (.imul, 1) := by decide +kernel
theorem dX4_restock_52 : decode cX4_restock 52 = .ok (.iadd, 1) := by decide +kernel
theorem dX4_restock_53 : decode cX4_restock 53 = .ok (.iconst 0, 1) := by decide +kernel
theorem dX4_restock_54 : decode cX4_restock 54 = .ok (.iadd, 1) := by decide +kernel
theorem dX4_restock_55 : decode cX4_restock 55 = .ok (.dup2, 1) := by decide +kernel
theorem dX4_restock_56 : decode cX4_restock 56 = .ok (.iaload, 1) := by decide +kernel
theorem dX4_restock_57 : decode cX4_restock 57 = .ok (.iload_n 2, 1) := by decide +kernel
theorem dX4_restock_58 : decode cX4_restock 58 = .ok (.iadd, 1) := by decide +kernel
theorem dX4_restock_59 : decode cX4_restock 59 = .ok (.iastore, 1) := by decide +kernel
theorem dX4_restock_60 : decode cX4_restock 60 = .ok (.aload_n 0, 1) := by decide +kernel
theorem dX4_restock_61 : decode cX4_restock 61 = .ok (.getfield 17, 3) := by decide +kernel
theorem dX4_restock_64 : decode cX4_restock 64 = .ok (.bipush 7, 2) := by decide +kernel
theorem dX4_restock_66 : decode cX4_restock 66 = .ok (.iconst 2, 1) := by decide +kernel
theorem dX4_restock_67 : decode cX4_restock 67 = .ok (.iload_n 1, 1) := by decide +kernel
theorem dX4_restock_68 : decode cX4_restock 68 = .ok (.imul, 1) := by decide +kernel
theorem dX4_restock_69 : decode cX4_restock 69 = .ok (.iadd, 1) := by decide +kernel
theorem dX4_restock_70 : decode cX4_restock 70 = .ok (.iconst 0, 1) := by decide +kernel
theorem dX4_restock_71 : decode cX4_restock 71 = .ok (.iadd, 1) := by decide +kernel
theorem dX4_restock_72 : decode cX4_restock 72 = .ok (.iaload, 1) := by decide +kernel
theorem dX4_restock_73 : decode cX4_restock 73 = .ok (.ireturn, 1) := by decide +kernel
set_option maxRecDepth 20000 in
theorem ggX4_undo_X4_copy : GoodIn wsX4_undo wsX4_copy := goodIn_r _ [8] (by decide +kernel) (by decide +kernel)
set_option maxRecDepth 20000 in
theorem gX4_undo_X4_copy : GoodIn wsX4_undo (va_wsS RX4 151 yX4_copy wsX4_copy) := goodIn_app (goodIn_of _ (by decide +kernel)) ggX4_undo_X4_copy
theorem dX4_undo_0 : decode cX4_undo 0 = .ok (.aload_n 0, 1) := by decide +kernel
theorem dX4_undo_1 : decode cX4_undo 1 = .ok (.iconst 0, 1) := by decide +kernel
theorem dX4_undo_2 : decode cX4_undo 2 = .ok (.putfield 35, 3) := by decide +kernel
theorem dX4_undo_5 : decode cX4_undo 5 = .ok (.aload_n 0, 1) := by decide +kernel
theorem dX4_undo_6 : decode cX4_undo 6 = .ok (.getfield 250, 3) := by decide +kernel
theorem dX4_undo_9 : decode cX4_undo 9 = .ok (.ifCond .ne 5, 3) := by decide +kernel
theorem dX4_undo_12 : decode cX4_undo 12 = .ok (.iconst (-1), 1) := by decide +kernel
theorem dX4_undo_13 : decode cX4_undo 13 = .ok (.ireturn, 1) := by decide +kernel
theorem dX4_undo_14 : decode cX4_undo 14 = .ok (.aload_n 0, 1) := by decide +kernel
theorem dX4_undo_15 : decode cX4_undo 15 = .ok (.dup, 1) := by decide +kernel
theorem dX4_undo_16 : decode cX4_undo 16 = .ok (.getfield 250, 3) := by decide +kernel
theorem dX4_undo_19 : decode cX4_undo 19 = .ok (.iconst 1, 1) := by decide +kernel
theorem dX4_undo_20 : decode cX4_undo 20 = .ok (.isub, 1) := by decide +kernel
theorem dX4_undo_21 : decode cX4_undo 21 = .ok (.putfield 250, 3) := by decide +kernel
theorem dX4_undo_24 : decode cX4_undo 24 = .ok (.aload_n 0, 1) := by decide +kernel
theorem dX4_undo_25 : decode cX4_undo 25 = .ok (.getfield 28, 3) := by decide +kernel
theorem dX4_undo_28 : decode cX4_undo 28 = .ok (.aload_n 0, 1) := by decide +kernel
theorem dX4_undo_29 : decode cX4_undo 29 = .ok (.getfield 250, 3) := by decide +kernel
theorem dX4_undo_32 : decode cX4_undo 32 = .ok (.aaload, 1) := by decide +kernel
theorem dX4_undo_33 : decode cX4_undo 33 = .ok (.aload_n 0, 1) := by decide +kernel
theorem dX4_undo_34 : decode cX4_undo 34 = .ok (.getfield 17, 3) := by decide +kernel
theorem dX4_undo_37 : decode cX4_undo 37 = .ok (.invokestatic 151, 3) := by decide +kernel
theorem dX4_undo_40 : decode cX4_undo 40 = .ok (.aload_n 0, 1) := by decide +kernel
theorem dX4_undo_41 : decode cX4_undo 41 = .ok (.getfield 250, 3) := by decide +kernel
theorem dX4_undo_44 : decode cX4_undo 44 = .ok (.ireturn, 1) := by decide +kernel
set_option maxRecDepth 20000 in
theorem ggX4_checksum_X4_told : GoodIn wsX4_checksum wsX4_told := goodIn_r _ [8, 3, 9, 10, 11, 7, 12, 13, 14, 15, 16, 17, 18, 19, 56, 57, 58, 59, 60, 61, 62, 63, 64, 65, 66, 67, 68, 69, 70] (by decide +kernel) (by decide +kernel)
set_option maxRecDepth 20000 in
theorem gX4_checksum_X4_told : GoodIn wsX4_checksum (wsV RX4 226 RX4 yX4_told wsX4_told) := goodIn_app (goodIn_of _ (by decide +kernel)) ggX4_checksum_X4_told
set_option maxRecDepth 20000 in
theorem ggX4_checksum_X4_toldStock : GoodIn wsX4_checksum wsX4_toldStock := goodIn_r _ [23, 3, 24, 25, 26, 7, 27, 28, 29, 30, 31, 32, 33, 34, 35, 13, 14, 15, 16, 17, 18, 19, 36, 37, 38, 39, 40, 41, 42, 43, 44, 45, 46, 47, 48, 49, 50, 51, 56, 57, 58, 59, 60, 61, 62, 63, 64, 65, 66, 67, 68, 69, 70] (by decide +kernel) (by decide +kernel)
set_option maxRecDepth 20000 in
theorem gX4_checksum_X4_toldStock : GoodIn wsX4_checksum (wsV RX4 235 RX4 yX4_toldStock wsX4_toldStock) := goodIn_app (goodIn_of _ (by decide +kernel)) ggX4_checksum_X4_toldStock
set_option maxRecDepth 20000 in
theorem ggX4_checksum_X4_toldJourney : GoodIn wsX4_checksum wsX4_toldJourney := goodIn_r _ [55, 3, 13, 14, 15, 7, 16, 17, 18, 19, 44, 45, 46, 47, 36, 37, 38, 39, 56, 57, 58, 59, 60, 61, 62, 63, 64, 65, 66, 67, 68, 69, 70] (by decide +kernel) (by decide +kernel)
set_option maxRecDepth 20000 in
theorem gX4_checksum_X4_toldJourney : GoodIn wsX4_checksum (wsV RX4 241 RX4 yX4_toldJourney wsX4_toldJourney) := goodIn_app (goodIn_of _ (by decide +kernel)) ggX4_checksum_X4_toldJourney
set_option maxRecDepth 20000 in
theorem ggX4_checksum_X4_ofJourney : GoodIn wsX4_checksum wsX4_ofJourney := goodIn_r _ [16, 3, 17, 18, 7, 19, 56, 57, 58, 59, 60, 61, 62, 63, 64, 65, 66, 67, 68, 69, 70] (by decide +kernel) (by decide +kernel)
set_option maxRecDepth 20000 in
theorem gX4_checksum_X4_ofJourney : GoodIn wsX4_checksum (wsV RX4 158 RX4 yX4_ofJourney wsX4_ofJourney) := goodIn_app (goodIn_of _ (by decide +kernel)) ggX4_checksum_X4_ofJourney
set_option maxRecDepth 20000 in
theorem ggX4_checksum_X4_stepAt : GoodIn wsX4_checksum wsX4_stepAt := goodIn_r _ [39, 13, 14, 15, 7, 16, 3, 17, 18, 19, 56, 57, 58, 59, 60, 61, 62, 63, 64, 65, 66, 67, 68, 69, 70] (by decide +kernel) (by decide +kernel)
set_option maxRecDepth 20000 in
theorem gX4_checksum_X4_stepAt : GoodIn wsX4_checksum (wsV RX4 161 RX4 yX4_stepAt wsX4_stepAt) := goodIn_app (goodIn_of _ (by decide +kernel)) ggX4_checksum_X4_stepAt
theorem dX4_checksum_0 : decode cX4_checksum 0 = .ok (.aload_n 0, 1) := by decide +kernel
theorem dX4_checksum_1 : decode cX4_checksum 1 = .ok (.iconst 0, 1) := by decide +kernel
theorem dX4_checksum_2 : decode cX4_checksum 2 = .ok (.putfield 35, 3) := by decide +kernel
theorem dX4_checksum_5 : decode cX4_checksum 5 = .ok (.lconst 0, 1) := by decide +kernel
theorem dX4_checksum_6 : decode cX4_checksum 6 = .ok (.lstore_n 1, 1) := by decide +kernel
theorem dX4_checksum_7 : decode cX4_checksum 7 = .ok (.iconst 0, 1) := by decide +kernel
theorem dX4_checksum_8 : decode cX4_checksum 8 = .ok (.istore_n 3, 1) := by decide +kernel
theorem dX4_checksum_9 : decode cX4_checksum 9 = .ok (.iload_n 3, 1) := by decide +kernel
theorem dX4_checksum_10 : decode cX4_checksum 10 = .ok (.bipush 10, 2) := by decide +kernel
theorem dX4_checksum_12 : decode cX4_checksum 12 = .ok (.if_icmp .ge 22, 3) := by decide +kernel
theorem dX4_checksum_15 : decode cX4_checksum 15 = .ok (.ldc2_w 256, 3) := by decide +kernel
theorem dX4_checksum_18 : decode cX4_checksum 18 = .ok (.lload_n 1, 1) := by decide +kernel
theorem dX4_checksum_19 : decode cX4_checksum 19 = .ok (.lmul, 1) := by decide +kernel
theorem dX4_checksum_20 : decode cX4_checksum 20 = .ok (.aload_n 0, 1) := by decide +kernel
theorem dX4_checksum_21 : decode cX4_checksum 21 = .ok (.iload_n 3, 1) := by decide +kernel
theorem dX4_checksum_22 : decode cX4_checksum 22 = .ok (.invokevirtual 226, 3) := by decide +kernel
theorem dX4_checksum_25 : decode cX4_checksum 25 = .ok (.i2l, 1) := by decide +kernel
theorem dX4_checksum_26 : decode cX4_checksum 26 = .ok (.ladd, 1) := by decide +kernel
theorem dX4_checksum_27 : decode cX4_checksum 27 = .ok (.lstore_n 1, 1) := by decide +kernel
theorem dX4_checksum_28 : decode cX4_checksum 28 = .ok (.iinc 3 1, 3) := by decide +kernel
theorem dX4_checksum_31 : decode cX4_checksum 31 = .ok (.goto (-22), 3) := by decide +kernel
theorem dX4_checksum_34 : decode cX4_checksum 34 = .ok (.iconst 0, 1) := by decide +kernel
theorem dX4_checksum_35 : decode cX4_checksum 35 = .ok (.istore_n 3, 1) := by decide +kernel
theorem dX4_checksum_36 : decode cX4_checksum 36 = .ok (.iload_n 3, 1) := by decide +kernel
theorem dX4_checksum_37 : decode cX4_checksum 37 = .ok (.aload_n 0, 1) := by decide +kernel
theorem dX4_checksum_38 : decode cX4_checksum 38 = .ok (.getfield 17, 3) := by decide +kernel
theorem dX4_checksum_41 : decode cX4_checksum 41 = .ok (.iconst 1, 1) := by decide +kernel
theorem dX4_checksum_42 : decode cX4_checksum 42 = .ok (.iaload, 1) := by decide +kernel
theorem dX4_checksum_43 : decode cX4_checksum 43 = .ok (.if_icmp .ge 40, 3) := by decide +kernel
theorem dX4_checksum_46 : decode cX4_checksum 46 = .ok (.iconst 0, 1) := by decide +kernel
theorem dX4_checksum_47 : decode cX4_checksum 47 = .ok (.istore 4, 2) := by decide +kernel
theorem dX4_checksum_49 : decode cX4_checksum 49 = .ok (.iload 4, 2) := by decide +kernel
theorem dX4_checksum_51 : decode cX4_checksum 51 = .ok (.bipush 6, 2) := by decide +kernel
theorem dX4_checksum_53 : decode cX4_checksum 53 = .ok (.if_icmp .ge 24, 3) := by decide +kernel
theorem dX4_checksum_56 : decode cX4_checksum 56 = .ok (.ldc2_w 256, 3) := by decide +kernel
theorem dX4_checksum_59 : decode cX4_checksum 59 = .ok (.lload_n 1, 1) := by decide +kernel
theorem dX4_checksum_60 : decode cX4_checksum 60 = .ok (.lmul, 1) := by decide +kernel
theorem dX4_checksum_61 : decode cX4_checksum 61 = .ok (.aload_n 0, 1) := by decide +kernel
theorem dX4_checksum_62 : decode cX4_checksum 62 = .ok (.iload_n 3, 1) := by decide +kernel
theorem dX4_checksum_63 : decode cX4_checksum 63 = .ok (.iload 4, 2) := by decide +kernel
theorem dX4_checksum_65 : decode cX4_checksum 65 = .ok (.invokevirtual 235, 3) := by decide +kernel
theorem dX4_checksum_68 : decode cX4_checksum 68 = .ok (.i2l, 1) := by decide +kernel
theorem dX4_checksum_69 : decode cX4_checksum 69 = .ok (.ladd, 1) := by decide +kernel
theorem dX4_checksum_70 : decode cX4_checksum 70 = .ok (.lstore_n 1, 1) := by decide +kernel
theorem dX4_checksum_71 : decode cX4_checksum 71 = .ok (.iinc 4 1, 3) := by decide +kernel
theorem dX4_checksum_74 : decode cX4_checksum 74 = .ok (.goto (-25), 3) := by decide +kernel
theorem dX4_checksum_77 : decode cX4_checksum 77 = .ok (.iinc 3 1, 3) := by decide +kernel
theorem dX4_checksum_80 : decode cX4_checksum 80 = .ok (.goto (-44), 3) := by decide +kernel
theorem dX4_checksum_83 : decode cX4_checksum 83 = .ok (.iconst 0, 1) := by decide +kernel
theorem dX4_checksum_84 : decode cX4_checksum 84 = .ok (.istore_n 3, 1) := by decide +kernel
theorem dX4_checksum_85 : decode cX4_checksum 85 = .ok (.iload_n 3, 1) := by decide +kernel
theorem dX4_checksum_86 : decode cX4_checksum 86 = .ok (.aload_n 0, 1) := by decide +kernel
theorem dX4_checksum_87 : decode cX4_checksum 87 = .ok (.getfield 17, 3) := by decide +kernel
theorem dX4_checksum_90 : decode cX4_checksum 90 = .ok (.iconst 2, 1) := by decide +kernel
theorem dX4_checksum_91 : decode cX4_checksum 91 = .ok (.iaload, 1) := by decide +kernel
theorem dX4_checksum_92 : decode cX4_checksum 92 = .ok (.if_icmp .ge 99, 3) := by decide +kernel
theorem dX4_checksum_95 : decode cX4_checksum 95 = .ok (.iconst 0, 1) := by decide +kernel
theorem dX4_checksum_96 : decode cX4_checksum 96 = .ok (.istore 4, 2) := by decide +kernel
theorem dX4_checksum_98 : decode cX4_checksum 98 = .ok (.iload 4, 2) := by decide +kernel
theorem dX4_checksum_100 : decode cX4_checksum 100 = .ok (.bipush 7, 2) := by decide +kernel
theorem dX4_checksum_102 : decode cX4_checksum 102 = .ok (.if_icmp .ge 24, 3) := by decide +kernel
theorem dX4_checksum_105 : decode cX4_checksum 105 = .ok (.ldc2_w 256, 3) := by decide +kernel
theorem dX4_checksum_108 : decode cX4_checksum 108 = .ok (.lload_n 1, 1) := by decide +kernel
theorem dX4_checksum_109 : decode cX4_checksum 109 = .ok (.lmul, 1) := by decide +kernel
theorem dX4_checksum_110 : decode cX4_checksum 110 = .ok (.aload_n 0, 1) := by decide +kernel
theorem dX4_checksum_111 : decode cX4_checksum 111 = .ok (.iload_n 3, 1) := by decide +kernel
theorem dX4_checksum_112 : decode cX4_checksum 112 = .ok (.iload 4, 2) := by decide +kernel
theorem dX4_checksum_114 : decode cX4_checksum 114 = .ok (.invokevirtual 241, 3) := by decide +kernel
theorem dX4_checksum_117 : decode cX4_checksum 117 = .ok (.i2l, 1) := by decide +kernel
theorem dX4_checksum_118 : decode cX4_checksum 118 = .ok (.ladd, 1) := by decide +kernel
theorem dX4_checksum_119 : decode cX4_checksum 119 = .ok (.lstore_n 1, 1) := by decide +kernel
theorem dX4_checksum_120 : decode cX4_checksum 120 = .ok (.iinc 4 1, 3) := by decide +kernel
theorem dX4_checksum_123 : decode cX4_checksum 123 = .ok (.goto (-25), 3) := by decide +kernel
theorem dX4_checksum_126 : decode cX4_checksum 126 = .ok (.iconst 0, 1) := by decide +kernel
theorem dX4_checksum_127 : decode cX4_checksum 127 = .ok (.istore 4, 2) := by decide +kernel
theorem dX4_checksum_129 : decode cX4_checksum 129 = .ok (.iload 4, 2) := by decide +kernel
theorem dX4_checksum_131 : decode cX4_checksum 131 = .ok (.aload_n 0, 1) := by decide +kernel
theorem dX4_checksum_132 : decode cX4_checksum 132 = .ok (.iload_n 3, 1) := by decide +kernel
theorem dX4_checksum_133 : decode cX4_checksum 133 = .ok (.iconst 3, 1) := by decide +kernel
theorem dX4_checksum_134 : decode cX4_checksum 134 = .ok (.invokevirtual 158, 3) := by decide +kernel
theorem dX4_checksum_137 : decode cX4_checksum 137 = .ok (.if_icmp .ge 48, 3) := by decide +kernel
theorem dX4_checksum_140 : decode cX4_checksum 140 = .ok (.iconst 4, 1) := by decide +kernel
theorem dX4_checksum_141 : decode cX4_checksum 141 = .ok (.istore 5, 2) := by decide +kernel
theorem dX4_checksum_143 : decode cX4_checksum 143 = .ok (.iload 5, 2) := by decide +kernel
theorem dX4_checksum_145 : decode cX4_checksum 145 = .ok (.bipush 6, 2) := by decide +kernel
theorem dX4_checksum_147 : decode cX4_checksum 147 = .ok (.if_icmp .gt 32, 3) := by decide +kernel
theorem dX4_checksum_150 : decode cX4_checksum 150 = .ok (.ldc2_w 256, 3) := by decide +kernel
theorem dX4_checksum_153 : decode cX4_checksum 153 = .ok (.lload_n 1, 1) := by decide +kernel
theorem dX4_checksum_154 : decode cX4_checksum 154 = .ok (.lmul, 1) := by decide +kernel
theorem dX4_checksum_155 : decode cX4_checksum 155 = .ok (.aload_n 0, 1) := by decide +kernel
theorem dX4_checksum_156 : decode cX4_checksum 156 = .ok (.getfield 17, 3) := by decide +kernel
theorem dX4_checksum_159 : decode cX4_checksum 159 = .ok (.aload_n 0, 1) := by decide +kernel
theorem dX4_checksum_160 : decode cX4_checksum 160 = .ok (.iload_n 3, 1) := by decide +kernel
theorem dX4_checksum_161 : decode cX4_checksum 161 = .ok (.iload 4, 2) := by decide +kernel
theorem dX4_checksum_163 : decode cX4_checksum 163 = .ok (.invokevirtual 161, 3) := by decide +kernel
theorem dX4_checksum_166 : decode cX4_checksum 166 = .ok (.iload 5, 2) := by decide +kernel
theorem dX4_checksum_168 : decode cX4_checksum 168 = .ok (.iadd, 1) := by decide +kernel
theorem dX4_checksum_169 : decode cX4_checksum 169 = .ok (.iaload, 1) := by decide +kernel
theorem dX4_checksum_170 : decode cX4_checksum 170 = .ok (.i2l, 1) := by decide +kernel
theorem dX4_checksum_171 : decode cX4_checksum 171 = .ok (.ladd, 1) := by decide +kernel
theorem dX4_checksum_172 : decode cX4_checksum 172 = .ok (.lstore_n 1, 1) := by decide +kernel
theorem dX4_checksum_173 : decode cX4_checksum 173 = .ok (.iinc 5 1, 3) := by decide +kernel
theorem dX4_checksum_176 : decode cX4_checksum 176 = .ok (.goto (-33), 3) := by decide +kernel
theorem dX4_checksum_179 : decode cX4_checksum 179 = .ok (.iinc 4 1, 3) := by decide +kernel
theorem dX4_checksum_182 : decode cX4_checksum 182 = .ok (.goto (-53), 3) := by decide +kernel
theorem dX4_checksum_185 : decode cX4_checksum 185 = .ok (.iinc 3 1, 3) := by decide +kernel
theorem dX4_checksum_188 : decode cX4_checksum 188 = .ok (.goto (-103), 3) := by decide +kernel
theorem dX4_checksum_191 : decode cX4_checksum 191 = .ok (.lload_n 1, 1) := by decide +kernel
theorem dX4_checksum_192 : decode cX4_checksum 192 = .ok (.lreturn, 1) := by decide +kernel
