theorem dX0_init_0 : decode cX0_init 0 = .ok (.aload_n 0, 1) := by decide +kernel
theorem dX0_init_1 : decode cX0_init 1 = .ok (.invokespecial 3, 3) := by decide +kernel
theorem dX0_init_4 : decode cX0_init 4 = .ok (.aload_n 0, 1) := by decide +kernel
theorem dX0_init_5 : decode cX0_init 5 = .ok (.iconst 5, 1) := by decide +kernel
theorem dX0_init_6 : decode cX0_init 6 = .ok (.putfield 9, 3) := by decide +kernel
theorem dX0_init_9 : decode cX0_init 9 = .ok (.aload_n 0, 1) := by decide +kernel
theorem dX0_init_10 : decode cX0_init 10 = .ok (.iconst 3, 1) := by decide +kernel
theorem dX0_init_11 : decode cX0_init 11 = .ok (.putfield 15, 3) := by decide +kernel
theorem dX0_init_14 : decode cX0_init 14 = .ok (.aload_n 0, 1) := by decide +kernel
theorem dX0_init_15 : decode cX0_init 15 = .ok (.iconst 0, 1) := by decide +kernel
theorem dX0_init_16 : decode cX0_init 16 = .ok (.putfield 18, 3) := by decide +kernel
theorem dX0_init_19 : decode cX0_init 19 = .ok (.aload_n 0, 1) := by decide +kernel
theorem dX0_init_20 : decode cX0_init 20 = .ok (.bipush 6, 2) := by decide +kernel
theorem dX0_init_22 : decode cX0_init 22 = .ok (.newarray .int, 2) := by decide +kernel
theorem dX0_init_24 : decode cX0_init 24 = .ok (.putfield 21, 3) := by decide +kernel
theorem dX0_init_27 : decode cX0_init 27 = .ok (.aload_n 0, 1) := by decide +kernel
theorem dX0_init_28 : decode cX0_init 28 = .ok (.bipush 6, 2) := by decide +kernel
theorem dX0_init_30 : decode cX0_init 30 = .ok (.newarray .int, 2) := by decide +kernel
theorem dX0_init_32 : decode cX0_init 32 = .ok (.putfield 25, 3) := by decide +kernel
theorem dX0_init_35 : decode cX0_init 35 = .ok (.aload_n 0, 1) := by decide +kernel
theorem dX0_init_36 : decode cX0_init 36 = .ok (.iconst 0, 1) := by decide +kernel
theorem dX0_init_37 : decode cX0_init 37 = .ok (.putfield 28, 3) := by decide +kernel
theorem dX0_init_40 : decode cX0_init 40 = .ok (.aload_n 0, 1) := by decide +kernel
theorem dX0_init_41 : decode cX0_init 41 = .ok (.bipush 8, 2) := by decide +kernel
theorem dX0_init_43 : decode cX0_init 43 = .ok (.newarray .int, 2) := by decide +kernel
theorem dX0_init_45 : decode cX0_init 45 = .ok (.putfield 31, 3) := by decide +kernel
theorem dX0_init_48 : decode cX0_init 48 = .ok (.aload_n 0, 1) := by decide +kernel
theorem dX0_init_49 : decode cX0_init 49 = .ok (.bipush 8, 2) := by decide +kernel
theorem dX0_init_51 : decode cX0_init 51 = .ok (.newarray .int, 2) := by decide +kernel
theorem dX0_init_53 : decode cX0_init 53 = .ok (.putfield 34, 3) := by decide +kernel
theorem dX0_init_56 : decode cX0_init 56 = .ok (.aload_n 0, 1) := by decide +kernel
theorem dX0_init_57 : decode cX0_init 57 = .ok (.bipush 8, 2) := by decide +kernel
theorem dX0_init_59 : decode cX0_init 59 = .ok (.newarray .int, 2) := by decide +kernel
theorem dX0_init_61 : decode cX0_init 61 = .ok (.putfield 37, 3) := by decide +kernel
theorem dX0_init_64 : decode cX0_init 64 = .ok (.aload_n 0, 1) := by decide +kernel
theorem dX0_init_65 : decode cX0_init 65 = .ok (.bipush 8, 2) := by decide +kernel
theorem dX0_init_67 : decode cX0_init 67 = .ok (.newarray .int, 2) := by decide +kernel
theorem dX0_init_69 : decode cX0_init 69 = .ok (.putfield 40, 3) := by decide +kernel
theorem dX0_init_72 : decode cX0_init 72 = .ok (.aload_n 0, 1) := by decide +kernel
theorem dX0_init_73 : decode cX0_init 73 = .ok (.iconst 0, 1) := by decide +kernel
theorem dX0_init_74 : decode cX0_init 74 = .ok (.putfield 43, 3) := by decide +kernel
theorem dX0_init_77 : decode cX0_init 77 = .ok (.aload_n 0, 1) := by decide +kernel
theorem dX0_init_78 : decode cX0_init 78 = .ok (.bipush 40, 2) := by decide +kernel
theorem dX0_init_80 : decode cX0_init 80 = .ok (.newarray .int, 2) := by decide +kernel
theorem dX0_init_82 : decode cX0_init 82 = .ok (.putfield 46, 3) := by decide +kernel
theorem dX0_init_85 : decode cX0_init 85 = .ok (.aload_n 0, 1) := by decide +kernel
theorem dX0_init_86 : decode cX0_init 86 = .ok (.bipush 40, 2) := by decide +kernel
theorem dX0_init_88 : decode cX0_init 88 = .ok (.newarray .int, 2) := by decide +kernel
theorem dX0_init_90 : decode cX0_init 90 = .ok (.putfield 49, 3) := by decide +kernel
theorem dX0_init_93 : decode cX0_init 93 = .ok (.aload_n 0, 1) := by decide +kernel
theorem dX0_init_94 : decode cX0_init 94 = .ok (.bipush 40, 2) := by decide +kernel
theorem dX0_init_96 : decode cX0_init 96 = .ok (.newarray .int, 2) := by decide +kernel
theorem dX0_init_98 : decode cX0_init 98 = .ok (.putfield 52, 3) := by decide +kernel
theorem dX0_init_101 : decode cX0_init 101 = .ok (.aload_n 0, 1) := by decide +kernel
theorem dX0_init_102 : decode cX0_init 102 = .ok (.bipush 40, 2) := by decide +kernel
theorem dX0_init_104 : decode cX0_init 104 = .ok (.newarray .int, 2) := by decide +kernel
theorem dX0_init_106 : decode cX0_init 106 = .ok (.putfield 55, 3) := by decide +kernel
theorem dX0_init_109 : decode cX0_init 109 = .ok (.aload_n 0, 1) := by decide +kernel
theorem dX0_init_110 : decode cX0_init 110 = .ok (.bipush 40, 2) := by decide +kernel
theorem dX0_init_112 : decode cX0_init 112 = .ok (.newarray .int, 2) := by decide +kernel
theorem dX0_init_114 : decode cX0_init 114 = .ok (.putfield 58, 3) := by decide +kernel
theorem dX0_init_117 : decode cX0_init 117 = .ok (.aload_n 0, 1) := by decide +kernel
theorem dX0_init_118 : decode cX0_init 118 = .ok (.bipush 40, 2) := by decide +kernel
theorem dX0_init_120 : decode cX0_init 120 = .ok (.newarray .int, 2) := by decide +kernel
theorem dX0_init_122 : decode cX0_init 122 = .ok (.putfield 61, 3) := by decide +kernel
theorem dX0_init_125 : decode cX0_init 125 = .ok (.return_, 1) := by decide +kernel
theorem dX0_stepsOf_0 : decode cX0_stepsOf 0 = .ok (.aload_n 0, 1) := by decide +kernel
theorem dX0_stepsOf_1 : decode cX0_stepsOf 1 = .ok (.getfield 40, 3) := by decide +kernel
theorem dX0_stepsOf_4 : decode cX0_stepsOf 4 = .ok (.iload_n 1, 1) := by decide +kernel
theorem dX0_stepsOf_5 : decode cX0_stepsOf 5 = .ok (.iaload, 1) := by decide +kernel
theorem dX0_stepsOf_6 : decode cX0_stepsOf 6 = .ok (.aload_n 0, 1) := by decide +kernel
theorem dX0_stepsOf_7 : decode cX0_stepsOf 7 = .ok (.getfield 37, 3) := by decide +kernel
theorem dX0_stepsOf_10 : decode cX0_stepsOf 10 = .ok (.iload_n 1, 1) := by decide +kernel
theorem dX0_stepsOf_11 : decode cX0_stepsOf 11 = .ok (.iaload, 1) := by decide +kernel
theorem dX0_stepsOf_12 : decode cX0_stepsOf 12 = .ok (.isub, 1) := by decide +kernel
theorem dX0_stepsOf_13 : decode cX0_stepsOf 13 = .ok (.ireturn, 1) := by decide +kernel
theorem dX0_hasRoomForStock_0 : decode cX0_hasRoomForStock 0 = .ok (.aload_n 0, 1) := by decide +kernel
theorem dX0_hasRoomForStock_1 : decode cX0_hasRoomForStock 1 = .ok (.getfield 18, 3) := by decide +kernel
theorem dX0_hasRoomForStock_4 : decode cX0_hasRoomForStock 4 = .ok (.bipush 6, 2) := by decide +kernel
theorem dX0_hasRoomForStock_6 : decode cX0_hasRoomForStock 6 = .ok (.if_icmp .ge 7, 3) := by decide +kernel
theorem dX0_hasRoomForStock_9 : decode cX0_hasRoomForStock 9 = .ok (.iconst 1, 1) := by decide +kernel
theorem dX0_hasRoomForStock_10 : decode cX0_hasRoomForStock 10 = .ok (.goto 4, 3) := by decide +kernel
theorem dX0_hasRoomForStock_13 : decode cX0_hasRoomForStock 13 = .ok (.iconst 0, 1) := by decide +kernel
theorem dX0_hasRoomForStock_14 : decode cX0_hasRoomForStock 14 = .ok (.ireturn, 1) := by decide +kernel
theorem dX0_hasRoomForJourney_0 : decode cX0_hasRoomForJourney 0 = .ok (.aload_n 0, 1) := by decide +kernel
theorem dX0_hasRoomForJourney_1 : decode cX0_hasRoomForJourney 1 = .ok (.getfield 28, 3) := by decide +kernel
theorem dX0_hasRoomForJourney_4 : decode cX0_hasRoomForJourney 4 = .ok (.bipush 8, 2) := by decide +kernel
theorem dX0_hasRoomForJourney_6 : decode cX0_hasRoomForJourney 6 = .ok (.if_icmp .ge 7, 3) := by decide +kernel
theorem dX0_hasRoomForJourney_9 : decode cX0_hasRoomForJourney 9 = .ok (.iconst 1, 1) := by decide +kernel
theorem dX0_hasRoomForJourney_10 : decode cX0_hasRoomForJourney 10 = .ok (.goto 4, 3) := by decide +kernel
theorem dX0_hasRoomForJourney_13 : decode cX0_hasRoomForJourney 13 = .ok (.iconst 0, 1) := by decide +kernel
theorem dX0_hasRoomForJourney_14 : decode cX0_hasRoomForJourney 14 = .ok (.ireturn, 1) := by decide +kernel
theorem dX0_hasRoomForStep_0 : decode cX0_hasRoomForStep 0 = .ok (.aload_n 0, 1) := by decide +kernel
theorem dX0_hasRoomForStep_1 : decode cX0_hasRoomForStep 1 = .ok (.getfield 43, 3) := by decide +kernel
theorem dX0_hasRoomForStep_4 : decode cX0_hasRoomForStep 4 = .ok (.bipush 40, 2) := by decide +kernel
theorem dX0_hasRoomForStep_6 : decode cX0_hasRoomForStep 6 = .ok (.if_icmp .ge 7, 3) := by decide +kernel
theorem dX0_hasRoomForStep_9 : decode cX0_hasRoomForStep 9 = .ok (.iconst 1, 1) := by decide +kernel
theorem dX0_hasRoomForStep_10 : decode cX0_hasRoomForStep 10 = .ok (.goto 4, 3) := by decide +kernel
theorem dX0_hasRoomForStep_13 : decode cX0_hasRoomForStep 13 = .ok (.iconst 0, 1) := by decide +kernel
theorem dX0_hasRoomForStep_14 : decode cX0_hasRoomForStep 14 = .ok (.ireturn, 1) := by decide +kernel
set_option maxRecDepth 20000 in
theorem ggX0_addStock_X0_hasRoomForStock : GoodIn wsX0_addStock wsX0_hasRoomForStock := goodIn_r _ [8, 2, 9, 10, 11, 12, 13, 14, 15, 16, 17, 18, 19, 20, 21, 22, 23, 24, 25] (by decide +kernel) (by decide +kernel)
set_option maxRecDepth 20000 in
theorem gX0_addStock_X0_hasRoomForStock : GoodIn wsX0_addStock (wsV RX0 64 RX0 yX0_hasRoomForStock wsX0_hasRoomForStock) := goodIn_app (goodIn_of _ (by decide +kernel)) ggX0_addStock_X0_hasRoomForStock
theorem dX0_addStock_0 : decode cX0_addStock 0 = .ok (.aload_n 0, 1) := by decide +kernel
theorem dX0_addStock_1 : decode cX0_addStock 1 = .ok (.invokevirtual 64, 3) := by decide +kernel
theorem dX0_addStock_4 : decode cX0_addStock 4 = .ok (.ifCond .eq 33, 3) := by decide +kernel
theorem dX0_addStock_7 : decode cX0_addStock 7 = .ok (.aload_n 0, 1) := by decide +kernel
theorem dX0_addStock_8 : decode cX0_addStock 8 = .ok (.getfield 21, 3) := by decide +kernel
theorem dX0_addStock_11 : decode cX0_addStock 11 = .ok (.aload_n 0, 1) := by decide +kernel
theorem dX0_addStock_12 : decode cX0_addStock 12 = .ok (.getfield 18, 3) := by decide +kernel
theorem dX0_addStock_15 : decode cX0_addStock 15 = .ok (.iload_n 1, 1) := by decide +kernel
theorem dX0_addStock_16 : decode cX0_addStock 16 = .ok (.iastore, 1) := by decide +kernel
theorem dX0_addStock_17 : decode cX0_addStock 17 = .ok (.aload_n 0, 1) := by decide +kernel
theorem dX0_addStock_18 : decode cX0_addStock 18 = .ok (.getfield 25, 3) := by decide +kernel
theorem dX0_addStock_21 : decode cX0_addStock 21 = .ok (.aload_n 0, 1) := by decide +kernel
theorem dX0_addStock_22 : decode cX0_addStock 22 = .ok (.getfield 18, 3) := by decide +kernel
theorem dX0_addStock_25 : decode cX0_addStock 25 = .ok (.iload_n 2, 1) := by decide +kernel
theorem dX0_addStock_26 : decode cX0_addStock 26 = .ok (.iastore, 1) := by decide +kernel
theorem dX0_addStock_27 : decode cX0_addStock 27 = .ok (.aload_n 0, 1) := by decide +kernel
theorem dX0_addStock_28 : decode cX0_addStock 28 = .ok (.dup, 1) := by decide +kernel
theorem dX0_addStock_29 : decode cX0_addStock 29 = .ok (.getfield 18, 3) := by decide +kernel
theorem dX0_addStock_32 : decode cX0_addStock 32 = .ok (.iconst 1, 1) := by decide +kernel
theorem dX0_addStock_33 : decode cX0_addStock 33 = .ok (.iadd, 1) := by decide +kernel
theorem dX0_addStock_34 : decode cX0_addStock 34 = .ok (.putfield 18, 3) := by decide +kernel
theorem dX0_addStock_37 : decode cX0_addStock 37 = .ok (.return_, 1) := by decide +kernel
set_option maxRecDepth 20000 in
theorem ggX0_addJourney_X0_hasRoomForJourney : GoodIn wsX0_addJourney wsX0_hasRoomForJourney := goodIn_r _ [10, 2, 11, 12, 13, 14, 15, 16, 17, 18, 19, 20, 21, 22, 23, 24, 25, 26, 27] (by decide +kernel) (by decide +kernel)
set_option maxRecDepth 20000 in
theorem gX0_addJourney_X0_hasRoomForJourney : GoodIn wsX0_addJourney (wsV RX0 68 RX0 yX0_hasRoomForJourney wsX0_hasRoomForJourney) := goodIn_app (goodIn_of _ (by decide +kernel)) ggX0_addJourney_X0_hasRoomForJourney
theorem dX0_addJourney_0 : decode cX0_addJourney 0 = .ok (.aload_n 0, 1) := by decide +kernel
theorem dX0_addJourney_1 : decode cX0_addJourney 1 = .ok (.invokevirtual 68, 3) := by decide +kernel
theorem dX0_addJourney_4 : decode cX0_addJourney 4 = .ok (.ifCond .eq 49, 3) := by decide +kernel
theorem dX0_addJourney_7 : decode cX0_addJourney 7 = .ok (.aload_n 0, 1) := by decide +kernel
theorem dX0_addJourney_8 : decode cX0_addJourney 8 = .ok (.getfield 31, 3) := by decide +kernel
theorem dX0_addJourney_11 : decode cX0_addJourney 11 = .ok (.aload_n 0, 1) := by decide +kernel
theorem dX0_addJourney_12 : decode cX0_addJourney 12 = .ok (.getfield 28, 3) := by decide +kernel
theorem dX0_addJourney_15 : decode cX0_addJourney 15 = .ok (.iload_n 1, 1) := by decide +kernel
theorem dX0_addJourney_16 : decode cX0_addJourney 16 = .ok (.iastore, 1) := by decide +kernel
theorem dX0_addJourney_17 : decode cX0_addJourney 17 = .ok (.aload_n 0, 1) := by decide +kernel
theorem dX0_addJourney_18 : decode cX0_addJourney 18 = .ok (.getfield 37, 3) := by decide +kernel
theorem dX0_addJourney_21 : decode cX0_addJourney 21 = .ok (.aload_n 0, 1) := by decide +kernel
theorem dX0_addJourney_22 : decode cX0_addJourney 22 = .ok (.getfield 28, 3) := by decide +kernel
theorem dX0_addJourney_25 : decode cX0_addJourney 25 = .ok (.aload_n 0, 1) := by decide +kernel
theorem dX0_addJourney_26 : decode cX0_addJourney 26 = .ok (.getfield 43, 3) := by decide +kernel
theorem dX0_addJourney_29 : decode cX0_addJourney 29 = .ok (.iastore, 1) := by decide +kernel
theorem dX0_addJourney_30 : decode cX0_addJourney 30 = .ok (.aload_n 0, 1) := by decide +kernel
theorem dX0_addJourney_31 : decode cX0_addJourney 31 = .ok (.getfield 40, 3) := by decide +kernel
theorem dX0_addJourney_34 : decode cX0_addJourney 34 = .ok (.aload_n 0, 1) := by decide +kernel
theorem dX0_addJourney_35 : decode cX0_addJourney 35 = .ok (.getfield 28, 3) := by decide +kernel
theorem dX0_addJourney_38 : decode cX0_addJourney 38 = .ok (.aload_n 0, 1) := by decide +kernel
theorem dX0_addJourney_39 : decode cX0_addJourney 39 = .ok (.getfield 43, 3) := by decide +kernel
theorem dX0_addJourney_42 : decode cX0_addJourney 42 = .ok (.iastore, 1) := by decide +kernel
theorem dX0_addJourney_43 : decode cX0_addJourney 43 = .ok (.aload_n 0, 1) := by decide +kernel
theorem dX0_addJourney_44 : decode cX0_addJourney 44 = .ok (.dup, 1) := by decide +kernel
theorem dX0_addJourney_45 : decode cX0_addJourney 45 = .ok (.getfield 28, 3) := by decide +kernel
theorem dX0_addJourney_48 : decode cX0_addJourney 48 = .ok (.iconst 1, 1) := by decide +kernel
theorem dX0_addJourney_49 : decode cX0_addJourney 49 = .ok (.iadd, 1) := by decide +kernel
theorem dX0_addJourney_50 : decode cX0_addJourney 50 = .ok (.putfield 28, 3) := by decide +kernel
theorem dX0_addJourney_53 : decode cX0_addJourney 53 = .ok (.return_, 1) := by decide +kernel
set_option maxRecDepth 20000 in
theorem ggX0_addStep_X0_hasRoomForStep : GoodIn wsX0_addStep wsX0_hasRoomForStep := goodIn_r _ [15, 3, 16, 17, 18, 19, 20, 21, 22, 23, 24, 25, 26, 27, 28, 29, 30, 31, 32] (by decide +kernel) (by decide +kernel)
set_option maxRecDepth 20000 in
theorem gX0_addStep_X0_hasRoomForStep : GoodIn wsX0_addStep (wsV RX0 71 RX0 yX0_hasRoomForStep wsX0_hasRoomForStep) := goodIn_app (goodIn_of _ (by decide +kernel)) ggX0_addStep_X0_hasRoomForStep
theorem dX0_addStep_0 : decode cX0_addStep 0 = .ok (.aload_n 0, 1) := by decide +kernel
theorem dX0_addStep_1 : decode cX0_addStep 1 = .ok (.invokevirtual 71, 3) := by decide +kernel
theorem dX0_addStep_4 : decode cX0_addStep 4 = .ok (.ifCond .eq 112, 3) := by decide +kernel
theorem dX0_addStep_7 : decode cX0_addStep 7 = .ok (.aload_n 0, 1) := by decide +kernel
theorem dX0_addStep_8 : decode cX0_addStep 8 = .ok (.getfield 28, 3) := by decide +kernel
theorem dX0_addStep_11 : decode cX0_addStep 11 = .ok (.ifCond .le 105, 3) := by decide +kernel
theorem dX0_addStep_14 : decode cX0_addStep 14 = .ok (.aload_n 0, 1) := by decide +kernel
theorem dX0_addStep_15 : decode cX0_addStep 15 = .ok (.getfield 46, 3) := by decide +kernel
theorem dX0_addStep_18 : decode cX0_addStep 18 = .ok (.aload_n 0, 1) := by decide +kernel
theorem dX0_addStep_19 : decode cX0_addStep 19 = .ok (.getfield 43, 3) := by decide +kernel
theorem dX0_addStep_22 : decode cX0_addStep 22 = .ok (.iload_n 1, 1) := by decide +kernel
theorem dX0_addStep_23 : decode cX0_addStep 23 = .ok (.iastore, 1) := by decide +kernel
theorem dX0_addStep_24 : decode cX0_addStep 24 = .ok (.aload_n 0, 1) := by decide +kernel
theorem dX0_addStep_25 : decode cX0_addStep 25 = .ok (.getfield 49, 3) := by decide +kernel
theorem dX0_addStep_28 : decode cX0_addStep 28 = .ok (.aload_n 0, 1) := by decide +kernel
theorem dX0_addStep_29 : decode cX0_addStep 29 = .ok (.getfield 43, 3) := by decide +kernel
theorem dX0_addStep_32 : decode cX0_addStep 32 = .ok (.iload_n 2, 1) := by decide +kernel
theorem dX0_addStep_33 : decode cX0_addStep 33 = .ok (.iastore, 1) := by decide +kernel
theorem dX0_addStep_34 : decode cX0_addStep 34 = .ok (.aload_n 0, 1) := by decide +kernel
theorem dX0_addStep_35 : decode cX0_addStep 35 = .ok (.getfield 52, 3) := by decide +kernel
theorem dX0_addStep_38 : decode cX0_addStep 38 = .ok (.aload_n 0, 1) := by decide +kernel
theorem dX0_addStep_39 : decode cX0_addStep 39 = .ok (.getfield 43, 3) := by decide +kernel
theorem dX0_addStep_42 : decode cX0_addStep 42 = .ok (.iload_n 3, 1) := by decide +kernel
theorem dX0_addStep_43 : decode cX0_addStep 43 = .ok (.iastore, 1) := by decide +kernel
theorem dX0_addStep_44 : decode cX0_addStep 44 = .ok (.aload_n 0, 1) := by decide +kernel
theorem dX0_addStep_45 : decode cX0_addStep 45 = .ok (.getfield 55, 3) := by decide +kernel
theorem dX0_addStep_48 : decode cX0_addStep 48 = .ok (.aload_n 0, 1) := by decide +kernel
theorem dX0_addStep_49 : decode cX0_addStep 49 = .ok (.getfield 43, 3) := by decide +kernel
theorem dX0_addStep_52 : decode cX0_addStep 52 = .ok (.iload 4, 2) := by decide +kernel
theorem dX0_addStep_54 : decode cX0_addStep 54 = .ok (.iastore, 1) := by decide +kernel
theorem dX0_addStep_55 : decode cX0_addStep 55 = .ok (.aload_n 0, 1) := by decide +kernel
theorem dX0_addStep_56 : decode cX0_addStep 56 = .ok (.getfield 58, 3) := by decide +kernel
theorem dX0_addStep_59 : decode cX0_addStep 59 = .ok (.aload_n 0, 1) := by decide +kernel
theorem dX0_addStep_60 : decode cX0_addStep 60 = .ok (.getfield 43, 3) := by decide +kernel
theorem dX0_addStep_63 : decode cX0_addStep 63 = .ok (.iload 5, 2) := by decide +kernel
theorem dX0_addStep_65 : decode cX0_addStep 65 = .ok (.iastore, 1) := by decide +kernel
theorem dX0_addStep_66 : decode cX0_addStep 66 = .ok (.aload_n 0, 1) := by decide +kernel
theorem dX0_addStep_67 : decode cX0_addStep 67 = .ok (.getfield 61, 3) := by decide +kernel
theorem dX0_addStep_70 : decode cX0_addStep 70 = .ok (.aload_n 0, 1) := by decide +kernel
theorem dX0_addStep_71 : decode cX0_addStep 71 = .ok (.getfield 43, 3) := by decide +kernel
theorem dX0_addStep_74 : decode cX0_addStep 74 = .ok (.iload 6, 2) := by decide +kernel
theorem dX0_addStep_76 : decode cX0_addStep 76 = .ok (.iastore, 1) := by decide +kernel
theorem dX0_addStep_77 : decode cX0_addStep 77 = .ok (.aload_n 0, 1) := by decide +kernel
theorem dX0_addStep_78 : decode cX0_addStep 78 = .ok (.dup, 1) := by decide +kernel
theorem dX0_addStep_79 : decode cX0_addStep 79 = .ok (.getfield 43, 3) := by decide +kernel
theorem dX0_addStep_82 : decode cX0_addStep 82 = .ok (.iconst 1, 1) := by decide +kernel
theorem dX0_addStep_83 : decode cX0_addStep 83 = .ok (.iadd, 1) := by decide +kernel
theorem dX0_addStep_84 : decode cX0_addStep 84 = .ok (.putfield 43, 3) := by decide +kernel
theorem dX0_addStep_87 : decode cX0_addStep 87 = .ok (.aload_n 0, 1) := by decide +kernel
theorem dX0_addStep_88 : decode cX0_addStep 88 = .ok (.getfield 40, 3) := by decide +kernel
theorem dX0_addStep_91 : decode cX0_addStep 91 = .ok (.aload_n 0, 1) := by decide +kernel
theorem dX0_addStep_92 : decode cX0_addStep 92 = .ok (.getfield 28, 3) := by decide +kernel
theorem dX0_addStep_95 : decode cX0_addStep 95 = .ok (.iconst 1, 1) := by decide +kernel
theorem dX0_addStep_96 : decode cX0_addStep 96 = .ok (.isub, 1) := by decide +kernel
theorem dX0_addStep_97 : decode cX0_addStep 97 = .ok (.aload_n 0, 1) := by decide +kernel
theorem dX0_addStep_98 : decode cX0_addStep 98 = .ok (.getfield 43, 3) := by decide +kernel
theorem dX0_addStep_101 : decode cX0_addStep 101 = .ok (.iastore, 1) := by decide +kernel
theorem dX0_addStep_102 : decode cX0_addStep 102 = .ok (.aload_n 0, 1) := by decide +kernel
theorem dX0_addStep_103 : decode cX0_addStep 103 = .ok (.getfield 34, 3) := by decide +kernel
theorem dX0_addStep_106 : decode cX0_addStep 106 = .ok (.aload_n 0, 1) := by decide +kernel
theorem dX0_addStep_107 : decode cX0_addStep 107 = .ok (.getfield 28, 3) := by decide +kernel
theorem dX0_addStep_110 : decode cX0_addStep 110 = .ok (.iconst 1, 1) := by decide +kernel
theorem dX0_addStep_111 : decode cX0_addStep 111 = .ok (.isub, 1) := by decide +kernel
theorem dX0_addStep_112 : decode cX0_addStep 112 = .ok (.iload_n 1, 1) := by decide +kernel
theorem dX0_addStep_113 : decode cX0_addStep 113 = .ok (.iconst 1, 1) := by decide +kernel
theorem dX0_addStep_114 : decode cX0_addStep 114 = .ok (.iadd, 1) := by decide +kernel
theorem dX0_addStep_115 : decode cX0_addStep 115 = .ok (.iastore, 1) := by decide +kernel
theorem dX0_addStep_116 : decode cX0_addStep 116 = .ok (.return_, 1) := by decide +kernel
set_option maxRecDepth 20000 in
theorem ggX1_init_X0_init : GoodIn wsX1_init wsX0_init := goodIn_r _ [26, 27, 2, 3, 28, 29, 30, 31, 32, 33, 34, 35, 36, 37, 38, 39, 40, 41, 42, 43, 44, 45, 46, 47, 48, 49, 50, 51, 52, 53, 54, 55, 56, 57, 58, 59, 60, 61, 62] (by decide +kernel) (by decide +kernel)
set_option maxRecDepth 20000 in
theorem gX1_init_X0_init_n11 : GoodIn wsX1_init (wsX0_init) := ggX1_init_X0_init
theorem dX1_init_0 : decode cX1_init 0 = .ok (.aload_n 0, 1) := by decide +kernel
theorem dX1_init_1 : decode cX1_init 1 = .ok (.invokespecial 3, 3) := by decide +kernel
theorem dX1_init_4 : decode cX1_init 4 = .ok (.aload_n 0, 1) := by decide +kernel
theorem dX1_init_5 : decode cX1_init 5 = .ok (.new 9, 3) := by decide +kernel
theorem dX1_init_8 : decode cX1_init 8 = .ok (.dup, 1) := by decide +kernel
theorem dX1_init_9 : decode cX1_init 9 = .ok (.invokespecial 11, 3) := by decide +kernel
theorem dX1_init_12 : decode cX1_init 12 = .ok (.putfield 12, 3) := by decide +kernel
theorem dX1_init_15 : decode cX1_init 15 = .ok (.aload_n 0, 1) := by decide +kernel
theorem dX1_init_16 : decode cX1_init 16 = .ok (.iconst 0, 1) := by decide +kernel
theorem dX1_init_17 : decode cX1_init 17 = .ok (.putfield 18, 3) := by decide +kernel
theorem dX1_init_20 : decode cX1_init 20 = .ok (.aload_n 0, 1) := by decide +kernel
theorem dX1_init_21 : decode cX1_init 21 = .ok (.iconst (-1), 1) := by decide +kernel
theorem dX1_init_22 : decode cX1_init 22 = .ok (.putfield 22, 3) := by decide +kernel
theorem dX1_init_25 : decode cX1_init 25 = .ok (.aload_n 0, 1) := by decide +kernel
theorem dX1_init_26 : decode cX1_init 26 = .ok (.iconst 0, 1) := by decide +kernel
theorem dX1_init_27 : decode cX1_init 27 = .ok (.putfield 25, 3) := by decide +kernel
theorem dX1_init_30 : decode cX1_init 30 = .ok (.aload_n 0, 1) := by decide +kernel
theorem dX1_init_31 : decode cX1_init 31 = .ok (.iconst 0, 1) := by decide +kernel
theorem dX1_init_32 : decode cX1_init 32 = .ok (.putfield 29, 3) := by decide +kernel
theorem dX1_init_35 : decode cX1_init 35 = .ok (.aload_n 0, 1) := by decide +kernel
theorem dX1_init_36 : decode cX1_init 36 = .ok (.iconst 0, 1) := by decide +kernel
theorem dX1_init_37 : decode cX1_init 37 = .ok (.putfield 32, 3) := by decide +kernel
theorem dX1_init_40 : decode cX1_init 40 = .ok (.aload_n 0, 1) := by decide +kernel
theorem dX1_init_41 : decode cX1_init 41 = .ok (.iconst 0, 1) := by decide +kernel
theorem dX1_init_42 : decode cX1_init 42 = .ok (.putfield 35, 3) := by decide +kernel
theorem dX1_init_45 : decode cX1_init 45 = .ok (.aload_n 0, 1) := by decide +kernel
theorem dX1_init_46 : decode cX1_init 46 = .ok (.iconst 0, 1) := by decide +kernel
theorem dX1_init_47 : decode cX1_init 47 = .ok (.putfield 38, 3) := by decide +kernel
theorem dX1_init_50 : decode cX1_init 50 = .ok (.aload_n 0, 1) := by decide +kernel
theorem dX1_init_51 : decode cX1_init 51 = .ok (.iconst 0, 1) := by decide +kernel
theorem dX1_init_52 : decode cX1_init 52 = .ok (.putfield 41, 3) := by decide +kernel
theorem dX1_init_55 : decode cX1_init 55 = .ok (.aload_n 0, 1) := by decide +kernel
theorem dX1_init_56 : decode cX1_init 56 = .ok (.aload_n 1, 1) := by decide +kernel
theorem dX1_init_57 : decode cX1_init 57 = .ok (.putfield 44, 3) := by decide +kernel
theorem dX1_init_60 : decode cX1_init 60 = .ok (.aload_n 0, 1) := by decide +kernel
theorem dX1_init_61 : decode cX1_init 61 = .ok (.iconst 0, 1) := by decide +kernel
theorem dX1_init_62 : decode cX1_init 62 = .ok (.iload_n 2, 1) := by decide +kernel
theorem dX1_init_63 : decode cX1_init 63 = .ok (.aload_n 1, 1) := by decide +kernel
theorem dX1_init_64 : decode cX1_init 64 = .ok (.arraylength, 1) := by decide +kernel
theorem dX1_init_65 : decode cX1_init 65 = .ok (.invokestatic 48, 3) := by decide +kernel
theorem dX1_init_68 : decode cX1_init 68 = .ok (.invokestatic 54, 3) := by decide +kernel
theorem dX1_init_71 : decode cX1_init 71 = .ok (.putfield 57, 3) := by decide +kernel
theorem dX1_init_74 : decode cX1_init 74 = .ok (.return_, 1) := by decide +kernel
set_option maxRecDepth 20000 in
theorem ggX1_readSetup_X1_nextToken : GoodIn wsX1_readSetup wsX1_nextToken := goodIn_r _ [14, 15, 9, 1, 3, 16, 17, 18, 19, 20, 21, 22, 23, 24, 25, 13, 26, 157, 158, 159, 160, 161, 162, 163, 164, 165, 166, 167] (by decide +kernel) (by decide +kernel)
set_option maxRecDepth 20000 in
theorem gX1_readSetup_X1_nextToken : GoodIn wsX1_readSetup (wsV RX1 60 RX1 yX1_nextToken wsX1_nextToken) := goodIn_app (goodIn_of _ (by decide +kernel)) ggX1_readSetup_X1_nextToken
set_option maxRecDepth 20000 in
theorem ggX1_readSetup_X1_takeWord : GoodIn wsX1_readSetup wsX1_takeWord := goodIn_r _ [30, 9, 31, 32, 33, 13, 34, 35, 36, 37, 38, 3, 15, 18, 39, 40, 41, 42, 43, 44, 45, 46, 47, 48, 49, 50, 51, 52, 53, 54, 55, 56, 57, 58, 59, 60, 61, 62, 63, 64, 65, 66, 67, 68, 69, 70, 71, 72, 73, 74, 75, 76, 77, 78, 79, 80, 81, 82, 83, 84, 85, 86, 87, 10, 11, 12, 14, 1, 16, 17, 19, 20, 21, 22, 23, 24, 25, 26, 88, 89, 90, 91, 2, 92, 157, 158, 159, 160, 161, 162, 163, 164, 165, 166, 167] (by decide +kernel) (by decide +kernel)
set_option maxRecDepth 20000 in
theorem gX1_readSetup_X1_takeWord : GoodIn wsX1_readSetup (wsV RX1 65 RX1 yX1_takeWord wsX1_takeWord) := goodIn_app (goodIn_of _ (by decide +kernel)) ggX1_readSetup_X1_takeWord
set_option maxRecDepth 20000 in
theorem ggX1_readSetup_X1_takeSign : GoodIn wsX1_readSetup wsX1_takeSign := goodIn_r _ [96, 3, 18, 9, 88, 89, 90, 13, 91, 2, 92, 10, 11, 12, 14, 15, 1, 16, 17, 19, 20, 21, 22, 23, 24, 25, 26, 157, 158, 159, 160, 161, 162, 163, 164, 165, 166, 167] (by decide +kernel) (by decide +kernel)
set_option maxRecDepth 20000 in
theorem gX1_readSetup_X1_takeSign : GoodIn wsX1_readSetup (wsV RX1 69 RX1 yX1_takeSign wsX1_takeSign) := goodIn_app (goodIn_of _ (by decide +kernel)) ggX1_readSetup_X1_takeSign
set_option maxRecDepth 20000 in
theorem ggX1_readSetup_X1_wordIs : GoodIn wsX1_readSetup wsX1_wordIs := goodIn_r _ [38, 3, 15, 9, 18, 39, 40, 41, 42, 43, 44, 45, 46, 47, 48, 49, 50, 51, 52, 53, 54, 55, 56, 57, 58, 59, 60, 61, 62, 63, 64, 65, 66, 67, 68, 69, 70, 71, 72, 73, 74, 75, 76, 77, 78, 79, 80, 81, 82, 83, 84, 85, 86, 87, 157, 158, 159, 160, 161, 162, 163, 164, 165, 166, 167] (by decide +kernel) (by decide +kernel)
set_option maxRecDepth 20000 in
theorem gX1_readSetup_X1_wordIs : GoodIn wsX1_readSetup (wsV RX1 75 RX1 yX1_wordIs wsX1_wordIs) := goodIn_app (goodIn_of _ (by decide +kernel)) ggX1_readSetup_X1_wordIs
set_option maxRecDepth 20000 in
theorem ggX1_readSetup_X1_readStock : GoodIn wsX1_readSetup wsX1_readStock := goodIn_r _ [100, 5, 9, 101, 102, 103, 104, 105, 106, 88, 89, 90, 13, 91, 2, 92, 10, 11, 12, 14, 15, 1, 3, 16, 17, 18, 19, 20, 21, 22, 23, 24, 25, 26, 107, 108, 109, 110, 111, 112, 113, 114, 115, 116, 117, 157, 158, 159, 160, 161, 162, 163, 164, 165, 166, 167, 168, 169, 170, 171, 172, 173, 174, 175, 176, 177, 178, 179, 180, 181, 182, 183, 184] (by decide +kernel) (by decide +kernel)
set_option maxRecDepth 20000 in
theorem gX1_readSetup_X1_readStock : GoodIn wsX1_readSetup (wsV RX1 79 RX1 yX1_readStock wsX1_readStock) := goodIn_app (goodIn_of _ (by decide +kernel)) ggX1_readSetup_X1_readStock
set_option maxRecDepth 20000 in
theorem ggX1_readSetup_X1_readJourney : GoodIn wsX1_readSetup wsX1_readJourney := goodIn_r _ [121, 5, 9, 2, 122, 123, 124, 104, 125, 126, 88, 89, 90, 13, 91, 92, 10, 11, 12, 14, 15, 1, 3, 16, 17, 18, 19, 20, 21, 22, 23, 24, 25, 26, 107, 108, 109, 110, 127, 128, 129, 130, 131, 132, 133, 134, 135, 136, 137, 138, 139, 140, 141, 142, 143, 144, 93, 94, 95, 96, 31, 32, 33, 34, 35, 36, 37, 38, 39, 40, 41, 42, 43, 44, 45, 46, 47, 48, 49, 50, 51, 52, 53, 54, 55, 56, 57, 58, 59, 60, 61, 62, 63, 64, 65, 66, 67, 68, 69, 70, 71, 72, 73, 74, 75, 76, 77, 78, 79, 80, 81, 82, 83, 84, 85, 86, 87, 145, 146, 147, 148, 149, 150, 151, 152, 153, 154, 155, 156, 157, 158, 159, 160, 161, 162, 163, 164, 165, 166, 167, 168, 169, 170, 171, 172, 173, 174, 175, 176, 177, 178, 179, 180, 181, 182, 183, 184] (by decide +kernel) (by decide +kernel)
set_option maxRecDepth 20000 in
theorem gX1_readSetup_X1_readJourney : GoodIn wsX1_readSetup (wsV RX1 84 RX1 yX1_readJourney wsX1_readJourney) := goodIn_app (goodIn_of _ (by decide +kernel)) ggX1_readSetup_X1_readJourney
set_option maxRecDepth 20000 in
theorem ggX1_readSetup_X1_readNumber : GoodIn wsX1_readSetup wsX1_readNumber := goodIn_r _ [110, 3, 9, 16, 88, 89, 90, 13, 91, 2, 92, 10, 11, 12, 14, 15, 1, 17, 18, 19, 20, 21, 22, 23, 24, 25, 26, 157, 158, 159, 160, 161, 162, 163, 164, 165, 166, 167] (by decide +kernel) (by decide +kernel)
set_option maxRecDepth 20000 in
theorem gX1_readSetup_X1_readNumber : GoodIn wsX1_readSetup (wsV RX1 89 RX1 yX1_readNumber wsX1_readNumber) := goodIn_app (goodIn_of _ (by decide +kernel)) ggX1_readSetup_X1_readNumber
set_option maxRecDepth 20000 in
theorem ggX1_readSetup_X1_fail : GoodIn wsX1_readSetup wsX1_fail := goodIn_r _ [91, 2, 92, 157, 158, 159, 160, 161, 162, 163, 164, 165, 166, 167] (by decide +kernel) (by decide +kernel)
set_option maxRecDepth 20000 in
theorem gX1_readSetup_X1_fail : GoodIn wsX1_readSetup (wsV RX1 98 RX1 yX1_fail wsX1_fail) := goodIn_app (goodIn_of _ (by decide +kernel)) ggX1_readSetup_X1_fail
theorem dX1_readSetup_0 : decode cX1_readSetup 0 = .ok (.aload_n 0, 1) := by decide +kernel
theorem dX1_readSetup_1 : decode cX1_readSetup 1 = .ok (.invokevirtual 60, 3) := by decide +kernel
theorem dX1_readSetup_4 : decode cX1_readSetup 4 = .ok (.aload_n 0, 1) := by decide +kernel
theorem dX1_readSetup_5 : decode cX1_readSetup 5 = .ok (.ldc 63, 2) := by decide +kernel
theorem dX1_readSetup_7 : decode cX1_readSetup 7 = .ok (.invokevirtual 65, 3) := by decide +kernel
theorem dX1_readSetup_10 : decode cX1_readSetup 10 = .ok (.aload_n 0, 1) := by decide +kernel
theorem dX1_readSetup_11 : decode cX1_readSetup 11 = .ok (.bipush 59, 2) := by decide +kernel
theorem dX1_readSetup_13 : decode cX1_readSetup 13 = .ok (.invokevirtual 69, 3) := by decide +kernel
theorem dX1_readSetup_16 : decode cX1_readSetup 16 = .ok (.iconst 0, 1) := by decide +kernel
theorem dX1_readSetup_17 : decode cX1_readSetup 17 = .ok (.istore_n 1, 1) := by decide +kernel
theorem dX1_readSetup_18 : decode cX1_readSetup 18 = .ok (.iload_n 1, 1) := by decide +kernel
theorem dX1_readSetup_19 : decode cX1_readSetup 19 = .ok (.aload_n 0, 1) := by decide +kernel
theorem dX1_readSetup_20 : decode cX1_readSetup 20 = .ok (.getfield 57, 3) := by decide +kernel
theorem dX1_readSetup_23 : decode cX1_readSetup 23 = .ok (.if_icmp .ge 155, 3) := by decide +kernel
theorem dX1_readSetup_26 : decode cX1_readSetup 26 = .ok (.aload_n 0, 1) := by decide +kernel
theorem dX1_readSetup_27 : decode cX1_readSetup 27 = .ok (.getfield 18, 3) := by decide +kernel
theorem dX1_readSetup_30 : decode cX1_readSetup 30 = .ok (.ifCond .ne 148, 3) := by decide +kernel
theorem dX1_readSetup_33 : decode cX1_readSetup 33 = .ok (.aload_n 0, 1) := by decide +kernel
theorem dX1_readSetup_34 : decode cX1_readSetup 34 = .ok (.getfield 32, 3) := by decide +kernel
theorem dX1_readSetup_37 : decode cX1_readSetup 37 = .ok (.ifCond .eq 141, 3) := by decide +kernel
theorem dX1_readSetup_40 : decode cX1_readSetup 40 = .ok (.aload_n 0, 1) := by decide +kernel
theorem dX1_readSetup_41 : decode cX1_readSetup 41 = .ok (.ldc 73, 2) := by decide +kernel
theorem dX1_readSetup_43 : decode cX1_readSetup 43 = .ok (.invokevirtual 75, 3) := by decide +kernel
theorem dX1_readSetup_46 : decode cX1_readSetup 46 = .ok (.ifCond .eq 10, 3) := by decide +kernel
theorem dX1_readSetup_49 : decode cX1_readSetup 49 = .ok (.aload_n 0, 1) := by decide +kernel
theorem dX1_readSetup_50 : decode cX1_readSetup 50 = .ok (.invokevirtual 79, 3) := by decide +kernel
theorem dX1_readSetup_53 : decode cX1_readSetup 53 = .ok (.goto 113, 3) := by decide +kernel
theorem dX1_readSetup_56 : decode cX1_readSetup 56 = .ok (.aload_n 0, 1) := by decide +kernel
theorem dX1_readSetup_57 : decode cX1_readSetup 57 = .ok (.ldc 82, 2) := by decide +kernel
theorem dX1_readSetup_59 : decode cX1_readSetup 59 = .ok (.invokevirtual 75, 3) := by decide +kernel
theorem dX1_readSetup_62 : decode cX1_readSetup 62 = .ok (.ifCond .eq 10, 3) := by decide +kernel
theorem dX1_readSetup_65 : decode cX1_readSetup 65 = .ok (.aload_n 0, 1) := by decide +kernel
theorem dX1_readSetup_66 : decode cX1_readSetup 66 = .ok (.invokevirtual 84, 3) := by decide +kernel
theorem dX1_readSetup_69 : decode cX1_readSetup 69 = .ok (.goto 97, 3) := by decide +kernel
theorem dX1_readSetup_72 : decode cX1_readSetup 72 = .ok (.aload_n 0, 1) := by decide +kernel
theorem dX1_readSetup_73 : decode cX1_readSetup 73 = .ok (.ldc 87, 2) := by decide +kernel
theorem dX1_readSetup_75 : decode cX1_readSetup 75 = .ok (.invokevirtual 75, 3) := by decide +kernel
theorem dX1_readSetup_78 : decode cX1_readSetup 78 = .ok (.ifCond .eq 36, 3) := by decide +kernel
theorem dX1_readSetup_81 : decode cX1_readSetup 81 = .ok (.aload_n 0, 1) := by decide +kernel
theorem dX1_readSetup_82 : decode cX1_readSetup 82 = .ok (.getfield 25, 3) := by decide +kernel
theorem dX1_readSetup_85 : decode cX1_readSetup 85 = .ok (.ifCond .ne 29, 3) := by decide +kernel
theorem dX1_readSetup_88 : decode cX1_readSetup 88 = .ok (.aload_n 0, 1) := by decide +kernel
theorem dX1_readSetup_89 : decode cX1_readSetup 89 = .ok (.iconst 1, 1) := by decide +kernel
theorem dX1_readSetup_90 : decode cX1_readSetup 90 = .ok (.putfield 25, 3) := by decide +kernel
theorem dX1_readSetup_93 : decode cX1_readSetup 93 = .ok (.aload_n 0, 1) := by decide +kernel
theorem dX1_readSetup_94 : decode cX1_readSetup 94 = .ok (.invokevirtual 60, 3) := by decide +kernel
theorem dX1_readSetup_97 : decode cX1_readSetup 97 = .ok (.aload_n 0, 1) := by decide +kernel
theorem dX1_readSetup_98 : decode cX1_readSetup 98 = .ok (.getfield 12, 3) := by decide +kernel
theorem dX1_readSetup_101 : decode cX1_readSetup 101 = .ok (.aload_n 0, 1) := by decide +kernel
theorem dX1_readSetup_102 : decode cX1_readSetup 102 = .ok (.iconst 1, 1) := by decide +kernel
theorem dX1_readSetup_103 : decode cX1_readSetup 103 = .ok (.bipush 99, 2) := by decide +kernel
theorem dX1_readSetup_105 : decode cX1_readSetup 105 = .ok (.invokevirtual 89, 3) := by decide +kernel
theorem dX1_readSetup_108 : decode cX1_readSetup 108 = .ok (.putfield 92, 3) := by decide +kernel
theorem dX1_readSetup_111 : decode cX1_readSetup 111 = .ok (.goto 55, 3) := by decide +kernel
theorem dX1_readSetup_114 : decode cX1_readSetup 114 = .ok (.aload_n 0, 1) := by decide +kernel
theorem dX1_readSetup_115 : decode cX1_readSetup 115 = .ok (.ldc 94, 2) := by decide +kernel
theorem dX1_readSetup_117 : decode cX1_readSetup 117 = .ok (.invokevirtual 75, 3) := by decide +kernel
theorem dX1_readSetup_120 : decode cX1_readSetup 120 = .ok (.ifCond .eq 36, 3) := by decide +kernel
theorem dX1_readSetup_123 : decode cX1_readSetup 123 = .ok (.aload_n 0, 1) := by decide +kernel
theorem dX1_readSetup_124 : decode cX1_readSetup 124 = .ok (.getfield 29, 3) := by decide +kernel
theorem dX1_readSetup_127 : decode cX1_readSetup 127 = .ok (.ifCond .ne 29, 3) := by decide +kernel
theorem dX1_readSetup_130 : decode cX1_readSetup 130 = .ok (.aload_n 0, 1) := by decide +kernel
theorem dX1_readSetup_131 : decode cX1_readSetup 131 = .ok (.iconst 1, 1) := by decide +kernel
theorem dX1_readSetup_132 : decode cX1_readSetup 132 = .ok (.putfield 29, 3) := by decide +kernel
theorem dX1_readSetup_135 : decode cX1_readSetup 135 = .ok (.aload_n 0, 1) := by decide +kernel
theorem dX1_readSetup_136 : decode cX1_readSetup 136 = .ok (.invokevirtual 60, 3) := by decide +kernel
theorem dX1_readSetup_139 : decode cX1_readSetup 139 = .ok (.aload_n 0, 1) := by decide +kernel
theorem dX1_readSetup_140 : decode cX1_readSetup 140 = .ok (.getfield 12, 3) := by decide +kernel
theorem dX1_readSetup_143 : decode cX1_readSetup 143 = .ok (.aload_n 0, 1) := by decide +kernel
theorem dX1_readSetup_144 : decode cX1_readSetup 144 = .ok (.iconst 1, 1) := by decide +kernel
theorem dX1_readSetup_145 : decode cX1_readSetup 145 = .ok (.bipush 9, 2) := by decide +kernel
theorem dX1_readSetup_147 : decode cX1_readSetup 147 = .ok (.invokevirtual 89, 3) := by decide +kernel
theorem dX1_readSetup_150 : decode cX1_readSetup 150 = .ok (.putfield 96, 3) := by decide +kernel
theorem dX1_readSetup_153 : decode cX1_readSetup 153 = .ok (.goto 13, 3) := by decide +kernel
theorem dX1_readSetup_156 : decode cX1_readSetup 156 = .ok (.aload_n 0, 1) := by decide +kernel
theorem dX1_readSetup_157 : decode cX1_readSetup 157 = .ok (.bipush (-2), 2) := by decide +kernel
theorem dX1_readSetup_159 : decode cX1_readSetup 159 = .ok (.aload_n 0, 1) := by decide +kernel
theorem dX1_readSetup_160 : decode cX1_readSetup 160 = .ok (.getfield 35, 3) := by decide +kernel
theorem dX1_readSetup_163 : decode cX1_readSetup 163 = .ok (.invokevirtual 98, 3) := by decide +kernel
theorem dX1_readSetup_166 : decode cX1_readSetup 166 = .ok (.aload_n 0, 1) := by decide +kernel
theorem dX1_readSetup_167 : decode cX1_readSetup 167 = .ok (.bipush 59, 2) := by decide +kernel
theorem dX1_readSetup_169 : decode cX1_readSetup 169 = .ok (.invokevirtual 69, 3) := by decide +kernel
theorem dX1_readSetup_172 : decode cX1_readSetup 172 = .ok (.iinc 1 1, 3) := by decide +kernel
theorem dX1_readSetup_175 : decode cX1_readSetup 175 = .ok (.goto (-157), 3) := by decide +kernel
theorem dX1_readSetup_178 : decode cX1_readSetup 178 = .ok (.return_, 1) := by decide +kernel
set_option maxRecDepth 20000 in
theorem ggX1_readStock_X0_hasRoomForStock : GoodIn wsX1_readStock wsX0_hasRoomForStock := goodIn_r _ [7, 8, 56, 57, 58, 59, 60, 61, 62, 63, 64, 65, 66, 67, 68, 69, 70, 71, 72] (by decide +kernel) (by decide +kernel)
set_option maxRecDepth 20000 in
theorem gX1_readStock_X0_hasRoomForStock : GoodIn wsX1_readStock (wsV RX1 102 RX0 yX0_hasRoomForStock wsX0_hasRoomForStock) := goodIn_app (goodIn_of _ (by decide +kernel)) ggX1_readStock_X0_hasRoomForStock
set_option maxRecDepth 20000 in
theorem ggX1_readStock_X1_fail : GoodIn wsX1_readStock wsX1_fail := goodIn_r _ [13, 14, 15, 45, 46, 47, 48, 49, 50, 51, 52, 53, 54, 55] (by decide +kernel) (by decide +kernel)
set_option maxRecDepth 20000 in
theorem gX1_readStock_X1_fail : GoodIn wsX1_readStock (wsV RX1 98 RX1 yX1_fail wsX1_fail) := goodIn_app (goodIn_of _ (by decide +kernel)) ggX1_readStock_X1_fail
set_option maxRecDepth 20000 in
theorem ggX1_readStock_X1_nextToken : GoodIn wsX1_readStock wsX1_nextToken := goodIn_r _ [19, 20, 2, 21, 22, 23, 24, 25, 26, 27, 28, 29, 30, 31, 32, 12, 33, 45, 46, 47, 48, 49, 50, 51, 52, 53, 54, 55] (by decide +kernel) (by decide +kernel)
set_option maxRecDepth 20000 in
theorem gX1_readStock_X1_nextToken : GoodIn wsX1_readStock (wsV RX1 60 RX1 yX1_nextToken wsX1_nextToken) := goodIn_app (goodIn_of _ (by decide +kernel)) ggX1_readStock_X1_nextToken
set_option maxRecDepth 20000 in
theorem ggX1_readStock_X1_readNumber : GoodIn wsX1_readStock wsX1_readNumber := goodIn_r _ [37, 22, 2, 23, 9, 10, 11, 12, 13, 14, 15, 16, 17, 18, 19, 20, 21, 24, 25, 26, 27, 28, 29, 30, 31, 32, 33, 45, 46, 47, 48, 49, 50, 51, 52, 53, 54, 55] (by decide +kernel) (by decide +kernel)
set_option maxRecDepth 20000 in
theorem gX1_readStock_X1_readNumber : GoodIn wsX1_readStock (wsV RX1 89 RX1 yX1_readNumber wsX1_readNumber) := goodIn_app (goodIn_of _ (by decide +kernel)) ggX1_readStock_X1_readNumber
set_option maxRecDepth 20000 in
theorem ggX1_readStock_X0_addStock : GoodIn wsX1_readStock wsX0_addStock := goodIn_r _ [41, 42, 8, 43, 44, 4, 5, 6, 7, 56, 57, 58, 59, 60, 61, 62, 63, 64, 65, 66, 67, 68, 69, 70, 71, 72] (by decide +kernel) (by decide +kernel)
set_option maxRecDepth 20000 in
theorem gX1_readStock_X0_addStock : GoodIn wsX1_readStock (wsV RX1 106 RX0 yX0_addStock wsX0_addStock) := goodIn_app (goodIn_of _ (by decide +kernel)) ggX1_readStock_X0_addStock
theorem dX1_readStock_0 : decode cX1_readStock 0 = .ok (.aload_n 0, 1) := by decide +kernel
theorem dX1_readStock_1 : decode cX1_readStock 1 = .ok (.getfield 12, 3) := by decide +kernel
theorem dX1_readStock_4 : decode cX1_readStock 4 = .ok (.invokevirtual 102, 3) := by decide +kernel
theorem dX1_readStock_7 : decode cX1_readStock 7 = .ok (.ifCond .ne 14, 3) := by decide +kernel
theorem dX1_readStock_10 : decode cX1_readStock 10 = .ok (.aload_n 0, 1) := by decide +kernel
theorem dX1_readStock_11 : decode cX1_readStock 11 = .ok (.bipush (-4), 2) := by decide +kernel
theorem dX1_readStock_13 : decode cX1_readStock 13 = .ok (.aload_n 0, 1) := by decide +kernel
theorem dX1_readStock_14 : decode cX1_readStock 14 = .ok (.getfield 35, 3) := by decide +kernel
theorem dX1_readStock_17 : decode cX1_readStock 17 = .ok (.invokevirtual 98, 3) := by decide +kernel
theorem dX1_readStock_20 : decode cX1_readStock 20 = .ok (.return_, 1) := by decide +kernel
theorem dX1_readStock_21 : decode cX1_readStock 21 = .ok (.aload_n 0, 1) := by decide +kernel
theorem dX1_readStock_22 : decode cX1_readStock 22 = .ok (.invokevirtual 60, 3) := by decide +kernel
theorem dX1_readStock_25 : decode cX1_readStock 25 = .ok (.aload_n 0, 1) := by decide +kernel
theorem dX1_readStock_26 : decode cX1_readStock 26 = .ok (.iconst 0, 1) := by decide +kernel
theorem dX1_readStock_27 : decode cX1_readStock 27 = .ok (.sipush 9999, 3) := by decide +kernel
theorem dX1_readStock_30 : decode cX1_readStock 30 = .ok (.invokevirtual 89, 3) := by decide +kernel
theorem dX1_readStock_33 : decode cX1_readStock 33 = .ok (.istore_n 1, 1) := by decide +kernel
theorem dX1_readStock_34 : decode cX1_readStock 34 = .ok (.aload_n 0, 1) := by decide +kernel
theorem dX1_readStock_35 : decode cX1_readStock 35 = .ok (.iconst 1, 1) := by decide +kernel
theorem dX1_readStock_36 : decode cX1_readStock 36 = .ok (.bipush 9, 2) := by decide +kernel
theorem dX1_readStock_38 : decode cX1_readStock 38 = .ok (.invokevirtual 89, 3) := by decide +kernel
theorem dX1_readStock_41 : decode cX1_readStock 41 = .ok (.istore_n 2, 1) := by decide +kernel
theorem dX1_readStock_42 : decode cX1_readStock 42 = .ok (.aload_n 0, 1) := by decide +kernel
theorem dX1_readStock_43 : decode cX1_readStock 43 = .ok (.getfield 12, 3) := by decide +kernel
theorem dX1_readStock_46 : decode cX1_readStock 46 = .ok (.iload_n 1, 1) := by decide +kernel
theorem dX1_readStock_47 : decode cX1_readStock 47 = .ok (.iload_n 2, 1) := by decide +kernel
theorem dX1_readStock_48 : decode cX1_readStock 48 = .ok (.invokevirtual 106, 3) := by decide +kernel
theorem dX1_readStock_51 : decode cX1_readStock 51 = .ok (.return_, 1) := by decide +kernel
set_option maxRecDepth 20000 in
theorem ggX1_readJourney_X0_hasRoomForJourney : GoodIn wsX1_readJourney wsX0_hasRoomForJourney := goodIn_r _ [8, 9, 140, 141, 142, 143, 144, 145, 146, 147, 148, 149, 150, 151, 152, 153, 154, 155, 156] (by decide +kernel) (by decide +kernel)
set_option maxRecDepth 20000 in
theorem gX1_readJourney_X0_hasRoomForJourney : GoodIn wsX1_readJourney (wsV RX1 109 RX0 yX0_hasRoomForJourney wsX0_hasRoomForJourney) := goodIn_app (goodIn_of _ (by decide +kernel)) ggX1_readJourney_X0_hasRoomForJourney
set_option maxRecDepth 20000 in
theorem ggX1_readJourney_X1_fail : GoodIn wsX1_readJourney wsX1_fail := goodIn_r _ [14, 3, 15, 129, 130, 131, 132, 133, 134, 135, 136, 137, 138, 139] (by decide +kernel) (by decide +kernel)
set_option maxRecDepth 20000 in
theorem gX1_readJourney_X1_fail : GoodIn wsX1_readJourney (wsV RX1 98 RX1 yX1_fail wsX1_fail) := goodIn_app (goodIn_of _ (by decide +kernel)) ggX1_readJourney_X1_fail
set_option maxRecDepth 20000 in
theorem ggX1_readJourney_X1_nextToken : GoodIn wsX1_readJourney wsX1_nextToken := goodIn_r _ [19, 20, 2, 21, 22, 23, 24, 25, 26, 27, 28, 29, 30, 31, 32, 13, 33, 129, 130, 131, 132, 133, 134, 135, 136, 137, 138, 139] (by decide +kernel) (by decide +kernel)
set_option maxRecDepth 20000 in
theorem gX1_readJourney_X1_nextToken : GoodIn wsX1_readJourney (wsV RX1 60 RX1 yX1_nextToken wsX1_nextToken) := goodIn_app (goodIn_of _ (by decide +kernel)) ggX1_readJourney_X1_nextToken
set_option maxRecDepth 20000 in
theorem ggX1_readJourney_X1_readNumber : GoodIn wsX1_readJourney wsX1_readNumber := goodIn_r _ [37, 22, 2, 23, 10, 11, 12, 13, 14, 3, 15, 16, 17, 18, 19, 20, 21, 24, 25, 26, 27, 28, 29, 30, 31, 32, 33, 129, 130, 131, 132, 133, 134, 135, 136, 137, 138, 139] (by decide +kernel) (by decide +kernel)
set_option maxRecDepth 20000 in
theorem gX1_readJourney_X1_readNumber : GoodIn wsX1_readJourney (wsV RX1 89 RX1 yX1_readNumber wsX1_readNumber) := goodIn_app (goodIn_of _ (by decide +kernel)) ggX1_readJourney_X1_readNumber
set_option maxRecDepth 20000 in
theorem ggX1_readJourney_X0_addJourney : GoodIn wsX1_readJourney wsX0_addJourney := goodIn_r _ [41, 42, 9, 43, 44, 45, 46, 5, 6, 7, 8, 140, 141, 142, 143, 144, 145, 146, 147, 148, 149, 150, 151, 152, 153, 154, 155, 156] (by decide +kernel) (by decide +kernel)
set_option maxRecDepth 20000 in
theorem gX1_readJourney_X0_addJourney : GoodIn wsX1_readJourney (wsV RX1 112 RX0 yX0_addJourney wsX0_addJourney) := goodIn_app (goodIn_of _ (by decide +kernel)) ggX1_readJourney_X0_addJourney
set_option maxRecDepth 20000 in
theorem ggX1_readJourney_X1_readStep : GoodIn wsX1_readJourney wsX1_readStep := goodIn_r _ [50, 2, 1, 51, 34, 35, 36, 13, 37, 22, 23, 10, 11, 12, 14, 3, 15, 16, 17, 18, 19, 20, 21, 24, 25, 26, 27, 28, 29, 30, 31, 32, 33, 52, 53, 54, 7, 55, 44, 56, 57, 58, 59, 60, 61, 62, 63, 64, 65, 66, 67, 68, 69, 70, 71, 72, 73, 74, 75, 76, 77, 78, 79, 80, 81, 82, 83, 84, 85, 86, 87, 88, 89, 90, 91, 92, 93, 94, 95, 96, 97, 98, 99, 100, 101, 102, 103, 104, 105, 106, 107, 108, 109, 110, 111, 112, 113, 114, 115, 116, 117, 118, 119, 120, 9, 121, 122, 123, 124, 125, 126, 45, 127, 128, 129, 130, 131, 132, 133, 134, 135, 136, 137, 138, 139, 140, 141, 142, 143, 144, 145, 146, 147, 148, 149, 150, 151, 152, 153, 154, 155, 156] (by decide +kernel) (by decide +kernel)
set_option maxRecDepth 20000 in
theorem gX1_readJourney_X1_readStep : GoodIn wsX1_readJourney (wsV RX1 116 RX1 yX1_readStep wsX1_readStep) := goodIn_app (goodIn_of _ (by decide +kernel)) ggX1_readJourney_X1_readStep
set_option maxRecDepth 20000 in
theorem ggX1_readJourney_X1_wordIs : GoodIn wsX1_readJourney wsX1_wordIs := goodIn_r _ [67, 22, 20, 2, 25, 68, 69, 70, 71, 72, 73, 74, 75, 76, 77, 78, 79, 80, 81, 82, 83, 84, 85, 86, 87, 88, 89, 90, 91, 92, 93, 94, 95, 96, 97, 98, 99, 100, 101, 102, 103, 104, 105, 106, 107, 108, 109, 110, 111, 112, 113, 114, 115, 116, 129, 130, 131, 132, 133, 134, 135, 136, 137, 138, 139] (by decide +kernel) (by decide +kernel)
set_option maxRecDepth 20000 in
theorem gX1_readJourney_X1_wordIs : GoodIn wsX1_readJourney (wsV RX1 75 RX1 yX1_wordIs wsX1_wordIs) := goodIn_app (goodIn_of _ (by decide +kernel)) ggX1_readJourney_X1_wordIs
theorem dX1_readJourney_0 : decode cX1_readJourney 0 = .ok (.aload_n 0, 1) := by decide +kernel
theorem dX1_readJourney_1 : decode cX1_readJourney 1 = .ok (.getfield 12, 3) := by decide +kernel
theorem dX1_readJourney_4 : decode cX1_readJourney 4 = .ok (.invokevirtual 109, 3) := by decide +kernel
theorem dX1_readJourney_7 : decode cX1_readJourney 7 = .ok (.ifCond .ne 14, 3) := by decide +kernel
theorem dX1_readJourney_10 : decode cX1_readJourney 10 = .ok (.aload_n 0, 1) := by decide +kernel
theorem dX1_readJourney_11 : decode cX1_readJourney 11 = .ok (.bipush (-4), 2) := by decide +kernel
theorem dX1_readJourney_13 : decode cX1_readJourney 13 = .ok (.aload_n 0, 1) := by decide +kernel
theorem dX1_readJourney_14 : decode cX1_readJourney 14 = .ok (.getfield 35, 3) := by decide +kernel
theorem dX1_readJourney_17 : decode cX1_readJourney 17 = .ok (.invokevirtual 98, 3) := by decide +kernel
theorem dX1_readJourney_20 : decode cX1_readJourney 20 = .ok (.return_, 1) := by decide +kernel
theorem dX1_readJourney_21 : decode cX1_readJourney 21 = .ok (.aload_n 0, 1) := by decide +kernel
theorem dX1_readJourney_22 : decode cX1_readJourney 22 = .ok (.invokevirtual 60, 3) := by decide +kernel
theorem dX1_readJourney_25 : decode cX1_readJourney 25 = .ok (.aload_n 0, 1) := by decide +kernel
theorem dX1_readJourney_26 : decode cX1_readJourney 26 = .ok (.iconst 0, 1) := by decide +kernel
theorem dX1_readJourney_27 : decode cX1_readJourney 27 = .ok (.sipush 999, 3) := by decide +kernel
theorem dX1_readJourney_30 : decode cX1_readJourney 30 = .ok (.invokevirtual 89, 3) := by decide +kernel
theorem dX1_readJourney_33 : decode cX1_readJourney 33 = .ok (.istore_n 1, 1) := by decide +kernel
theorem dX1_readJourney_34 : decode cX1_readJourney 34 = .ok (.aload_n 0, 1) := by decide +kernel
theorem dX1_readJourney_35 : decode cX1_readJourney 35 = .ok (.getfield 12, 3) := by decide +kernel
theorem dX1_readJourney_38 : decode cX1_readJourney 38 = .ok (.iload_n 1, 1) := by decide +kernel
theorem dX1_readJourney_39 : decode cX1_readJourney 39 = .ok (.invokevirtual 112, 3) := by decide +kernel
theorem dX1_readJourney_42 : decode cX1_readJourney 42 = .ok (.iconst 0, 1) := by decide +kernel
theorem dX1_readJourney_43 : decode cX1_readJourney 43 = .ok (.istore_n 2, 1) := by decide +kernel
theorem dX1_readJourney_44 : decode cX1_readJourney 44 = .ok (.iconst 1, 1) := by decide +kernel
theorem dX1_readJourney_45 : decode cX1_readJourney 45 = .ok (.istore_n 3, 1) := by decide +kernel
theorem dX1_readJourney_46 : decode cX1_readJourney 46 = .ok (.aload_n 0, 1) := by decide +kernel
theorem dX1_readJourney_47 : decode cX1_readJourney 47 = .ok (.iload_n 2, 1) := by decide +kernel
theorem dX1_readJourney_48 : decode cX1_readJourney 48 = .ok (.invokevirtual 116, 3) := by decide +kernel
theorem dX1_readJourney_51 : decode cX1_readJourney 51 = .ok (.iconst 0, 1) := by decide +kernel
theorem dX1_readJourney_52 : decode cX1_readJourney 52 = .ok (.istore 4, 2) := by decide +kernel
theorem dX1_readJourney_54 : decode cX1_readJourney 54 = .ok (.iload 4, 2) := by decide +kernel
theorem dX1_readJourney_56 : decode cX1_readJourney 56 = .ok (.bipush 40, 2) := by decide +kernel
theorem dX1_readJourney_58 : decode cX1_readJourney 58 = .ok (.if_icmp .ge 98, 3) := by decide +kernel
theorem dX1_readJourney_61 : decode cX1_readJourney 61 = .ok (.aload_n 0, 1) := by decide +kernel
theorem dX1_readJourney_62 : decode cX1_readJourney 62 = .ok (.getfield 18, 3) := by decide +kernel
theorem dX1_readJourney_65 : decode cX1_readJourney 65 = .ok (.ifCond .ne 91, 3) := by decide +kernel
theorem dX1_readJourney_68 : decode cX1_readJourney 68 = .ok (.aload_n 0, 1) := by decide +kernel
theorem dX1_readJourney_69 : decode cX1_readJourney 69 = .ok (.ldc 119, 2) := by decide +kernel
theorem dX1_readJourney_71 : decode cX1_readJourney 71 = .ok (.invokevirtual 75, 3) := by decide +kernel
theorem dX1_readJourney_74 : decode cX1_readJourney 74 = .ok (.ifCond .ne 12, 3) := by decide +kernel
theorem dX1_readJourney_77 : decode cX1_readJourney 77 = .ok (.aload_n 0, 1) := by decide +kernel
theorem dX1_readJourney_78 : decode cX1_readJourney 78 = .ok (.ldc 121, 2) := by decide +kernel
theorem dX1_readJourney_80 : decode cX1_readJourney 80 = .ok (.invokevirtual 75, 3) := by decide +kernel
theorem dX1_readJourney_83 : decode cX1_readJourney 83 = .ok (.ifCond .eq 73, 3) := by decide +kernel
theorem dX1_readJourney_86 : decode cX1_readJourney 86 = .ok (.aload_n 0, 1) := by decide +kernel
theorem dX1_readJourney_87 : decode cX1_readJourney 87 = .ok (.ldc 119, 2) := by decide +kernel
theorem dX1_readJourney_89 : decode cX1_readJourney 89 = .ok (.invokevirtual 75, 3) := by decide +kernel
theorem dX1_readJourney_92 : decode cX1_readJourney 92 = .ok (.istore 5, 2) := by decide +kernel
theorem dX1_readJourney_94 : decode cX1_readJourney 94 = .ok (.iload 5, 2) := by decide +kernel
theorem dX1_readJourney_96 : decode cX1_readJourney 96 = .ok (.ifCond .eq 9, 3) := by decide +kernel
theorem dX1_readJourney_99 : decode cX1_readJourney 99 = .ok (.iload_n 3, 1) := by decide +kernel
theorem dX1_readJourney_100 : decode cX1_readJourney 100 = .ok (.iconst 1, 1) := by decide +kernel
theorem dX1_readJourney_101 : decode cX1_readJourney 101 = .ok (.iadd, 1) := by decide +kernel
theorem dX1_readJourney_102 : decode cX1_readJourney 102 = .ok (.goto 4, 3) := by decide +kernel
theorem dX1_readJourney_105 : decode cX1_readJourney 105 = .ok (.iconst 1, 1) := by decide +kernel
theorem dX1_readJourney_106 : decode cX1_readJourney 106 = .ok (.istore_n 3, 1) := by decide +kernel
theorem dX1_readJourney_107 : decode cX1_readJourney 107 = .ok (.iload 5, 2) := by decide +kernel
theorem dX1_readJourney_109 : decode cX1_readJourney 109 = .ok (.ifCond .eq 7, 3) := by decide +kernel
theorem dX1_readJourney_112 : decode cX1_readJourney 112 = .ok (.iload_n 2, 1) := by decide +kernel
theorem dX1_readJourney_113 : decode cX1_readJourney 113 = .ok (.goto 6, 3) := by decide +kernel
theorem dX1_readJourney_116 : decode cX1_readJourney 116 = .ok (.iload_n 2, 1) := by decide +kernel
theorem dX1_readJourney_117 : decode cX1_readJourney 117 = .ok (.iconst 1, 1) := by decide +kernel
theorem dX1_readJourney_118 : decode cX1_readJourney 118 = .ok (.iadd, 1) := by decide +kernel
theorem dX1_readJourney_119 : decode cX1_readJourney 119 = .ok (.istore_n 2, 1) := by decide +kernel
theorem dX1_readJourney_120 : decode cX1_readJourney 120 = .ok (.iload_n 3, 1) := by decide +kernel
theorem dX1_readJourney_121 : decode cX1_readJourney 121 = .ok (.iconst 3, 1) := by decide +kernel
theorem dX1_readJourney_122 : decode cX1_readJourney 122 = .ok (.if_icmp .gt 8, 3) := by decide +kernel
theorem dX1_readJourney_125 : decode cX1_readJourney 125 = .ok (.iload_n 2, 1) := by decide +kernel
theorem dX1_readJourney_126 : decode cX1_readJourney 126 = .ok (.iconst 5, 1) := by decide +kernel
theorem dX1_readJourney_127 : decode cX1_readJourney 127 = .ok (.if_icmp .lt 14, 3) := by decide +kernel
theorem dX1_readJourney_130 : decode cX1_readJourney 130 = .ok (.aload_n 0, 1) := by decide +kernel
theorem dX1_readJourney_131 : decode cX1_readJourney 131 = .ok (.bipush (-4), 2) := by decide +kernel
theorem dX1_readJourney_133 : decode cX1_readJourney 133 = .ok (.aload_n 0, 1) := by decide +kernel
theorem dX1_readJourney_134 : decode cX1_readJourney 134 = .ok (.getfield 35, 3) := by decide +kernel
theorem dX1_readJourney_137 : decode cX1_readJourney 137 = .ok (.invokevirtual 98, 3) := by decide +kernel
theorem dX1_readJourney_140 : decode cX1_readJourney 140 = .ok (.return_, 1) := by decide +kernel
theorem dX1_readJourney_141 : decode cX1_readJourney 141 = .ok (.aload_n 0, 1) := by decide +kernel
theorem dX1_readJourney_142 : decode cX1_readJourney 142 = .ok (.invokevirtual 60, 3) := by decide +kernel
theorem dX1_readJourney_145 : decode cX1_readJourney 145 = .ok (.aload_n 0, 1) := by decide +kernel
theorem dX1_readJourney_146 : decode cX1_readJourney 146 = .ok (.iload_n 2, 1) := by decide +kernel
theorem dX1_readJourney_147 : decode cX1_readJourney 147 = .ok (.invokevirtual 116, 3) := by decide +kernel
theorem dX1_readJourney_150 : decode cX1_readJourney 150 = .ok (.iinc 4 1, 3) := by decide +kernel
theorem dX1_readJourney_153 : decode cX1_readJourney 153 = .ok (.goto (-99), 3) := by decide +kernel
theorem dX1_readJourney_156 : decode cX1_readJourney 156 = .ok (.return_, 1) := by decide +kernel
set_option maxRecDepth 20000 in
theorem ggX1_readStep_X1_readNumber : GoodIn wsX1_readStep wsX1_readNumber := goodIn_r _ [8, 9, 1, 10, 11, 12, 13, 7, 14, 15, 16, 17, 18, 19, 20, 21, 22, 23, 24, 25, 26, 27, 28, 29, 30, 31, 32, 114, 115, 116, 117, 118, 119, 120, 121, 122, 123, 124] (by decide +kernel) (by decide +kernel)
set_option maxRecDepth 20000 in
theorem gX1_readStep_X1_readNumber : GoodIn wsX1_readStep (wsV RX1 89 RX1 yX1_readNumber wsX1_readNumber) := goodIn_app (goodIn_of _ (by decide +kernel)) ggX1_readStep_X1_readNumber
set_option maxRecDepth 20000 in
theorem ggX1_readStep_X0_hasRoomForStep : GoodIn wsX1_readStep wsX0_hasRoomForStep := goodIn_r _ [37, 38, 125, 126, 127, 128, 129, 130, 131, 132, 133, 134, 135, 136, 137, 138, 139, 140, 141] (by decide +kernel) (by decide +kernel)
set_option maxRecDepth 20000 in
theorem gX1_readStep_X0_hasRoomForStep : GoodIn wsX1_readStep (wsV RX1 126 RX0 yX0_hasRoomForStep wsX0_hasRoomForStep) := goodIn_app (goodIn_of _ (by decide +kernel)) ggX1_readStep_X0_hasRoomForStep
set_option maxRecDepth 20000 in
theorem ggX1_readStep_X1_fail : GoodIn wsX1_readStep wsX1_fail := goodIn_r _ [14, 15, 16, 114, 115, 116, 117, 118, 119, 120, 121, 122, 123, 124] (by decide +kernel) (by decide +kernel)
set_option maxRecDepth 20000 in
theorem gX1_readStep_X1_fail : GoodIn wsX1_readStep (wsV RX1 98 RX1 yX1_fail wsX1_fail) := goodIn_app (goodIn_of _ (by decide +kernel)) ggX1_readStep_X1_fail
set_option maxRecDepth 20000 in
theorem ggX1_readStep_X1_takeSign : GoodIn wsX1_readStep wsX1_takeSign := goodIn_r _ [42, 9, 24, 1, 11, 12, 13, 7, 14, 15, 16, 17, 18, 19, 20, 21, 22, 10, 23, 25, 26, 27, 28, 29, 30, 31, 32, 114, 115, 116, 117, 118, 119, 120, 121, 122, 123, 124] (by decide +kernel) (by decide +kernel)
set_option maxRecDepth 20000 in
theorem gX1_readStep_X1_takeSign : GoodIn wsX1_readStep (wsV RX1 69 RX1 yX1_takeSign wsX1_takeSign) := goodIn_app (goodIn_of _ (by decide +kernel)) ggX1_readStep_X1_takeSign
set_option maxRecDepth 20000 in
theorem ggX1_readStep_X1_skipsWord : GoodIn wsX1_readStep wsX1_skipsWord := goodIn_r _ [46, 47, 48, 49, 7, 50, 9, 21, 1, 24, 51, 52, 53, 54, 55, 56, 57, 58, 59, 60, 61, 62, 63, 64, 65, 66, 67, 68, 69, 70, 71, 72, 73, 74, 75, 76, 77, 78, 79, 80, 81, 82, 83, 84, 85, 86, 87, 88, 89, 90, 91, 92, 93, 94, 95, 96, 97, 98, 99, 17, 18, 19, 20, 22, 10, 23, 25, 26, 27, 28, 29, 30, 31, 32, 114, 115, 116, 117, 118, 119, 120, 121, 122, 123, 124] (by decide +kernel) (by decide +kernel)
set_option maxRecDepth 20000 in
theorem gX1_readStep_X1_skipsWord : GoodIn wsX1_readStep (wsV RX1 131 RX1 yX1_skipsWord wsX1_skipsWord) := goodIn_app (goodIn_of _ (by decide +kernel)) ggX1_readStep_X1_skipsWord
set_option maxRecDepth 20000 in
theorem ggX1_readStep_X0_addStep : GoodIn wsX1_readStep wsX0_addStep := goodIn_r _ [103, 104, 105, 38, 106, 107, 108, 109, 110, 111, 112, 113, 34, 35, 36, 37, 125, 126, 127, 128, 129, 130, 131, 132, 133, 134, 135, 136, 137, 138, 139, 140, 141] (by decide +kernel) (by decide +kernel)
set_option maxRecDepth 20000 in
theorem gX1_readStep_X0_addStep : GoodIn wsX1_readStep (wsV RX1 136 RX0 yX0_addStep wsX0_addStep) := goodIn_app (goodIn_of _ (by decide +kernel)) ggX1_readStep_X0_addStep
theorem dX1_readStep_0 : decode cX1_readStep 0 = .ok (.aload_n 0, 1) := by decide +kernel
theorem dX1_readStep_1 : decode cX1_readStep 1 = .ok (.getfield 35, 3) := by decide +kernel
theorem dX1_readStep_4 : decode cX1_readStep 4 = .ok (.istore_n 2, 1) := by decide +kernel
theorem dX1_readStep_5 : decode cX1_readStep 5 = .ok (.aload_n 0, 1) := by decide +kernel
theorem dX1_readStep_6 : decode cX1_readStep 6 = .ok (.iconst 0, 1) := by decide +kernel
theorem dX1_readStep_7 : decode cX1_readStep 7 = .ok (.aload_n 0, 1) := by decide +kernel
theorem dX1_readStep_8 : decode cX1_readStep 8 = .ok (.getfield 12, 3) := by decide +kernel
theorem dX1_readStep_11 : decode cX1_readStep 11 = .ok (.getfield 123, 3) := by decide +kernel
theorem dX1_readStep_14 : decode cX1_readStep 14 = .ok (.iconst 1, 1) := by decide +kernel
theorem dX1_readStep_15 : decode cX1_readStep 15 = .ok (.isub, 1) := by decide +kernel
theorem dX1_readStep_16 : decode cX1_readStep 16 = .ok (.invokevirtual 89, 3) := by decide +kernel
theorem dX1_readStep_19 : decode cX1_readStep 19 = .ok (.istore_n 3, 1) := by decide +kernel
theorem dX1_readStep_20 : decode cX1_readStep 20 = .ok (.aload_n 0, 1) := by decide +kernel
theorem dX1_readStep_21 : decode cX1_readStep 21 = .ok (.getfield 12, 3) := by decide +kernel
theorem dX1_readStep_24 : decode cX1_readStep 24 = .ok (.invokevirtual 126, 3) := by decide +kernel
theorem dX1_readStep_27 : decode cX1_readStep 27 = .ok (.ifCond .ne 11, 3) := by decide +kernel
theorem dX1_readStep_30 : decode cX1_readStep 30 = .ok (.aload_n 0, 1) := by decide +kernel
theorem dX1_readStep_31 : decode cX1_readStep 31 = .ok (.bipush (-4), 2) := by decide +kernel
theorem dX1_readStep_33 : decode cX1_readStep 33 = .ok (.iload_n 2, 1) := by decide +kernel
theorem dX1_readStep_34 : decode cX1_readStep 34 = .ok (.invokevirtual 98, 3) := by decide +kernel
theorem dX1_readStep_37 : decode cX1_readStep 37 = .ok (.return_, 1) := by decide +kernel
theorem dX1_readStep_38 : decode cX1_readStep 38 = .ok (.aload_n 0, 1) := by decide +kernel
theorem dX1_readStep_39 : decode cX1_readStep 39 = .ok (.bipush 42, 2) := by decide +kernel
theorem dX1_readStep_41 : decode cX1_readStep 41 = .ok (.invokevirtual 69, 3) := by decide +kernel
theorem dX1_readStep_44 : decode cX1_readStep 44 = .ok (.aload_n 0, 1) := by decide +kernel
theorem dX1_readStep_45 : decode cX1_readStep 45 = .ok (.iconst 1, 1) := by decide +kernel
theorem dX1_readStep_46 : decode cX1_readStep 46 = .ok (.sipush 999, 3) := by decide +kernel
theorem dX1_readStep_49 : decode cX1_readStep 49 = .ok (.invokevirtual 89, 3) := by decide +kernel
theorem dX1_readStep_52 : decode cX1_readStep 52 = .ok (.istore 4, 2) := by decide +kernel
theorem dX1_readStep_54 : decode cX1_readStep 54 = .ok (.aload_n 0, 1) := by decide +kernel
theorem dX1_readStep_55 : decode cX1_readStep 55 = .ok (.bipush 58, 2) := by decide +kernel
theorem dX1_readStep_57 : decode cX1_readStep 57 = .ok (.invokevirtual 69, 3) := by decide +kernel
theorem dX1_readStep_60 : decode cX1_readStep 60 = .ok (.aload_n 0, 1) := by decide +kernel
theorem dX1_readStep_61 : decode cX1_readStep 61 = .ok (.iconst 1, 1) := by decide +kernel
theorem dX1_readStep_62 : decode cX1_readStep 62 = .ok (.bipush 99, 2) := by decide +kernel
theorem dX1_readStep_64 : decode cX1_readStep 64 = .ok (.invokevirtual 89, 3) := by decide +kernel
theorem dX1_readStep_67 : decode cX1_readStep 67 = .ok (.istore 5, 2) := by decide +kernel
theorem dX1_readStep_69 : decode cX1_readStep 69 = .ok (.aload_n 0, 1) := by decide +kernel
theorem dX1_readStep_70 : decode cX1_readStep 70 = .ok (.ldc 129, 2) := by decide +kernel
theorem dX1_readStep_72 : decode cX1_readStep 72 = .ok (.invokevirtual 131, 3) := by decide +kernel
theorem dX1_readStep_75 : decode cX1_readStep 75 = .ok (.ifCond .eq 13, 3) := by decide +kernel
theorem dX1_readStep_78 : decode cX1_readStep 78 = .ok (.aload_n 0, 1) := by decide +kernel
theorem dX1_readStep_79 : decode cX1_readStep 79 = .ok (.iconst 0, 1) := by decide +kernel
theorem dX1_readStep_80 : decode cX1_readStep 80 = .ok (.bipush 9, 2) := by decide +kernel
theorem dX1_readStep_82 : decode cX1_readStep 82 = .ok (.invokevirtual 89, 3) := by decide +kernel
theorem dX1_readStep_85 : decode cX1_readStep 85 = .ok (.goto 4, 3) := by decide +kernel
theorem dX1_readStep_88 : decode cX1_readStep 88 = .ok (.iconst 0, 1) := by decide +kernel
theorem dX1_readStep_89 : decode cX1_readStep 89 = .ok (.istore 6, 2) := by decide +kernel
theorem dX1_readStep_91 : decode cX1_readStep 91 = .ok (.aload_n 0, 1) := by decide +kernel
theorem dX1_readStep_92 : decode cX1_readStep 92 = .ok (.ldc 134, 2) := by decide +kernel
theorem dX1_readStep_94 : decode cX1_readStep 94 = .ok (.invokevirtual 131, 3) := by decide +kernel
theorem dX1_readStep_97 : decode cX1_readStep 97 = .ok (.ifCond .eq 13, 3) := by decide +kernel
theorem dX1_readStep_100 : decode cX1_readStep 100 = .ok (.aload_n 0, 1) := by decide +kernel
theorem dX1_readStep_101 : decode cX1_readStep 101 = .ok (.iconst 0, 1) := by decide +kernel
theorem dX1_readStep_102 : decode cX1_readStep 102 = .ok (.bipush 9, 2) := by decide +kernel
theorem dX1_readStep_104 : decode cX1_readStep 104 = .ok (.invokevirtual 89, 3) := by decide +kernel
theorem dX1_readStep_107 : decode cX1_readStep 107 = .ok (.goto 4, 3) := by decide +kernel
theorem dX1_readStep_110 : decode cX1_readStep 110 = .ok (.iconst 0, 1) := by decide +kernel
theorem dX1_readStep_111 : decode cX1_readStep 111 = .ok (.istore 7, 2) := by decide +kernel
theorem dX1_readStep_113 : decode cX1_readStep 113 = .ok (.aload_n 0, 1) := by decide +kernel
theorem dX1_readStep_114 : decode cX1_readStep 114 = .ok (.getfield 12, 3) := by decide +kernel
theorem dX1_readStep_117 : decode cX1_readStep 117 = .ok (.iload_n 1, 1) := by decide +kernel
theorem dX1_readStep_118 : decode cX1_readStep 118 = .ok (.iload_n 3, 1) := by decide +kernel
theorem dX1_readStep_119 : decode cX1_readStep 119 = .ok (.iload 4, 2) := by decide +kernel
theorem dX1_readStep_121 : decode cX1_readStep 121 = .ok (.iload 5, 2) := by decide +kernel
theorem dX1_readStep_123 : decode cX1_readStep 123 = .ok (.iload 6, 2) := by decide +kernel
theorem dX1_readStep_125 : decode cX1_readStep 125 = .ok (.iload 7, 2) := by decide +kernel
theorem dX1_readStep_127 : decode cX1_readStep 127 = .ok (.invokevirtual 136, 3) := by decide +kernel
theorem dX1_readStep_130 : decode cX1_readStep 130 = .ok (.return_, 1) := by decide +kernel
set_option maxRecDepth 20000 in
theorem ggX1_readNumber_X1_fail : GoodIn wsX1_readNumber wsX1_fail := goodIn_r _ [8, 9, 10, 27, 28, 29, 30, 31, 32, 33, 34, 35, 36, 37] (by decide +kernel) (by decide +kernel)
set_option maxRecDepth 20000 in
theorem gX1_readNumber_X1_fail : GoodIn wsX1_readNumber (wsV RX1 98 RX1 yX1_fail wsX1_fail) := goodIn_app (goodIn_of _ (by decide +kernel)) ggX1_readNumber_X1_fail
set_option maxRecDepth 20000 in
theorem ggX1_readNumber_X1_nextToken : GoodIn wsX1_readNumber wsX1_nextToken := goodIn_r _ [14, 15, 2, 16, 1, 3, 17, 18, 19, 20, 21, 22, 23, 24, 25, 7, 26, 27, 28, 29, 30, 31, 32, 33, 34, 35, 36, 37] (by decide +kernel) (by decide +kernel)
set_option maxRecDepth 20000 in
theorem gX1_readNumber_X1_nextToken : GoodIn wsX1_readNumber (wsV RX1 60 RX1 yX1_nextToken wsX1_nextToken) := goodIn_app (goodIn_of _ (by decide +kernel)) ggX1_readNumber_X1_nextToken
theorem dX1_readNumber_0 : decode cX1_readNumber 0 = .ok (.aload_n 0, 1) := by decide +kernel
theorem dX1_readNumber_1 : decode cX1_readNumber 1 = .ok (.getfield 32, 3) := by decide +kernel
theorem dX1_readNumber_4 : decode cX1_readNumber 4 = .ok (.iconst 1, 1) := by decide +kernel
theorem dX1_readNumber_5 : decode cX1_readNumber 5 = .ok (.if_icmp .eq 15, 3) := by decide +kernel
theorem dX1_readNumber_8 : decode cX1_readNumber 8 = .ok (.aload_n 0, 1) := by decide +kernel
theorem dX1_readNumber_9 : decode cX1_readNumber 9 = .ok (.bipush (-2), 2) := by decide +kernel
theorem dX1_readNumber_11 : decode cX1_readNumber 11 = .ok (.aload_n 0, 1) := by decide +kernel
theorem dX1_readNumber_12 : decode cX1_readNumber 12 = .ok (.getfield 35, 3) := by decide +kernel
theorem dX1_readNumber_15 : decode cX1_readNumber 15 = .ok (.invokevirtual 98, 3) := by decide +kernel
theorem dX1_readNumber_18 : decode cX1_readNumber 18 = .ok (.iconst 0, 1) := by decide +kernel
theorem dX1_readNumber_19 : decode cX1_readNumber 19 = .ok (.ireturn, 1) := by decide +kernel
theorem dX1_readNumber_20 : decode cX1_readNumber 20 = .ok (.aload_n 0, 1) := by decide +kernel
theorem dX1_readNumber_21 : decode cX1_readNumber 21 = .ok (.getfield 41, 3) := by decide +kernel
theorem dX1_readNumber_24 : decode cX1_readNumber 24 = .ok (.iload_n 1, 1) := by decide +kernel
theorem dX1_readNumber_25 : decode cX1_readNumber 25 = .ok (.if_icmp .lt 11, 3) := by decide +kernel
theorem dX1_readNumber_28 : decode cX1_readNumber 28 = .ok (.aload_n 0, 1) := by decide +kernel
theorem dX1_readNumber_29 : decode cX1_readNumber 29 = .ok (.getfield 41, 3) := by decide +kernel
theorem dX1_readNumber_32 : decode cX1_readNumber 32 = .ok (.iload_n 2, 1) := by decide +kernel
theorem dX1_readNumber_33 : decode cX1_readNumber 33 = .ok (.if_icmp .le 15, 3) := by decide +kernel
theorem dX1_readNumber_36 : decode cX1_readNumber 36 = .ok (.aload_n 0, 1) := by decide +kernel
theorem dX1_readNumber_37 : decode cX1_readNumber 37 = .ok (.bipush (-3), 2) := by decide +kernel
theorem dX1_readNumber_39 : decode cX1_readNumber 39 = .ok (.aload_n 0, 1) := by decide +kernel
theorem dX1_readNumber_40 : decode cX1_readNumber 40 = .ok (.getfield 35, 3) := by decide +kernel
theorem dX1_readNumber_43 : decode cX1_readNumber 43 = .ok (.invokevirtual 98, 3) := by decide +kernel
theorem dX1_readNumber_46 : decode cX1_readNumber 46 = .ok (.iconst 0, 1) := by decide +kernel
theorem dX1_readNumber_47 : decode cX1_readNumber 47 = .ok (.ireturn, 1) := by decide +kernel
theorem dX1_readNumber_48 : decode cX1_readNumber 48 = .ok (.aload_n 0, 1) := by decide +kernel
theorem dX1_readNumber_49 : decode cX1_readNumber 49 = .ok (.getfield 41, 3) := by decide +kernel
theorem dX1_readNumber_52 : decode cX1_readNumber 52 = .ok (.istore_n 3, 1) := by decide +kernel
theorem dX1_readNumber_53 : decode cX1_readNumber 53 = .ok (.aload_n 0, 1) := by decide +kernel
theorem dX1_readNumber_54 : decode cX1_readNumber 54 = .ok (.invokevirtual 60, 3) := by decide +kernel
theorem dX1_readNumber_57 : decode cX1_readNumber 57 = .ok (.iload_n 3, 1) := by decide +kernel
theorem dX1_readNumber_58 : decode cX1_readNumber 58 = .ok (.ireturn, 1) := by decide +kernel
set_option maxRecDepth 20000 in
theorem ggX1_takeWord_X1_skipsWord : GoodIn wsX1_takeWord wsX1_skipsWord := goodIn_r _ [6, 7, 8, 9, 5, 10, 11, 12, 1, 13, 14, 15, 16, 17, 18, 19, 20, 21, 22, 23, 24, 25, 26, 27, 28, 29, 30, 31, 32, 33, 34, 35, 36, 37, 38, 39, 40, 41, 42, 43, 44, 45, 46, 47, 48, 49, 50, 51, 52, 53, 54, 55, 56, 57, 58, 59, 60, 61, 62, 63, 64, 65, 66, 67, 68, 69, 70, 71, 72, 73, 74, 75, 76, 77, 84, 85, 86, 87, 88, 89, 90, 91, 92, 93, 94] (by decide +kernel) (by decide +kernel)
set_option maxRecDepth 20000 in
theorem gX1_takeWord_X1_skipsWord : GoodIn wsX1_takeWord (wsV RX1 131 RX1 yX1_skipsWord wsX1_skipsWord) := goodIn_app (goodIn_of _ (by decide +kernel)) ggX1_takeWord_X1_skipsWord
set_option maxRecDepth 20000 in
theorem ggX1_takeWord_X1_fail : GoodIn wsX1_takeWord wsX1_fail := goodIn_r _ [81, 82, 83, 84, 85, 86, 87, 88, 89, 90, 91, 92, 93, 94] (by decide +kernel) (by decide +kernel)
set_option maxRecDepth 20000 in
theorem gX1_takeWord_X1_fail : GoodIn wsX1_takeWord (wsV RX1 98 RX1 yX1_fail wsX1_fail) := goodIn_app (goodIn_of _ (by decide +kernel)) ggX1_takeWord_X1_fail
theorem dX1_takeWord_0 : decode cX1_takeWord 0 = .ok (.aload_n 0, 1) := by decide +kernel
theorem dX1_takeWord_1 : decode cX1_takeWord 1 = .ok (.aload_n 1, 1) := by decide +kernel
theorem dX1_takeWord_2 : decode cX1_takeWord 2 = .ok (.invokevirtual 131, 3) := by decide +kernel
theorem dX1_takeWord_5 : decode cX1_takeWord 5 = .ok (.ifCond .ne 13, 3) := by decide +kernel
theorem dX1_takeWord_8 : decode cX1_takeWord 8 = .ok (.aload_n 0, 1) := by decide +kernel
theorem dX1_takeWord_9 : decode cX1_takeWord 9 = .ok (.bipush (-2), 2) := by decide +kernel
theorem dX1_takeWord_11 : decode cX1_takeWord 11 = .ok (.aload_n 0, 1) := by decide +kernel
theorem dX1_takeWord_12 : decode cX1_takeWord 12 = .ok (.getfield 35, 3) := by decide +kernel
theorem dX1_takeWord_15 : decode cX1_takeWord 15 = .ok (.invokevirtual 98, 3) := by decide +kernel
theorem dX1_takeWord_18 : decode cX1_takeWord 18 = .ok (.return_, 1) := by decide +kernel
set_option maxRecDepth 20000 in
theorem ggX1_skipsWord_X1_wordIs : GoodIn wsX1_skipsWord wsX1_wordIs := goodIn_r _ [5, 6, 7, 8, 9, 10, 11, 12, 13, 14, 15, 16, 17, 18, 19, 20, 21, 22, 23, 24, 25, 26, 27, 28, 29, 30, 31, 32, 33, 34, 35, 36, 37, 38, 39, 40, 41, 42, 43, 44, 45, 46, 47, 48, 49, 50, 51, 52, 53, 54, 55, 56, 57, 58, 74, 75, 76, 77, 78, 79, 80, 81, 82, 83, 84] (by decide +kernel) (by decide +kernel)
set_option maxRecDepth 20000 in
theorem gX1_skipsWord_X1_wordIs : GoodIn wsX1_skipsWord (wsV RX1 75 RX1 yX1_wordIs wsX1_wordIs) := goodIn_app (goodIn_of _ (by decide +kernel)) ggX1_skipsWord_X1_wordIs
set_option maxRecDepth 20000 in
theorem ggX1_skipsWord_X1_nextToken : GoodIn wsX1_skipsWord wsX1_nextToken := goodIn_r _ [62, 7, 8, 63, 6, 64, 65, 9, 66, 67, 68, 69, 70, 71, 72, 4, 73, 74, 75, 76, 77, 78, 79, 80, 81, 82, 83, 84] (by decide +kernel) (by decide +kernel)
set_option maxRecDepth 20000 in
theorem gX1_skipsWord_X1_nextToken : GoodIn wsX1_skipsWord (wsV RX1 60 RX1 yX1_nextToken wsX1_nextToken) := goodIn_app (goodIn_of _ (by decide +kernel)) ggX1_skipsWord_X1_nextToken
theorem dX1_skipsWord_0 : decode cX1_skipsWord 0 = .ok (.aload_n 0, 1) := by decide +kernel
theorem dX1_skipsWord_1 : decode cX1_skipsWord 1 = .ok (.aload_n 1, 1) := by decide +kernel
theorem dX1_skipsWord_2 : decode cX1_skipsWord 2 = .ok (.invokevirtual 75, 3) := by decide +kernel
theorem dX1_skipsWord_5 : decode cX1_skipsWord 5 = .ok (.ifCond .ne 5, 3) := by decide +kernel
theorem dX1_skipsWord_8 : decode cX1_skipsWord 8 = .ok (.iconst 0, 1) := by decide +kernel
theorem dX1_skipsWord_9 : decode cX1_skipsWord 9 = .ok (.ireturn, 1) := by decide +kernel
theorem dX1_skipsWord_10 : decode cX1_skipsWord 10 = .ok (.aload_n 0, 1) := by decide +kernel
theorem dX1_skipsWord_11 : decode cX1_skipsWord 11 = .ok (.invokevirtual 60, 3) := by decide +kernel
theorem dX1_skipsWord_14 : decode cX1_skipsWord 14 = .ok (.iconst 1, 1) := by decide +kernel
theorem dX1_skipsWord_15 : decode cX1_skipsWord 15 = .ok (.ireturn, 1) := by decide +kernel
set_option maxRecDepth 20000 in
theorem ggX1_takeSign_X1_fail : GoodIn wsX1_takeSign wsX1_fail := goodIn_r _ [8, 9, 10, 27, 28, 29, 30, 31, 32, 33, 34, 35, 36, 37] (by decide +kernel) (by decide +kernel)
set_option maxRecDepth 20000 in
theorem gX1_takeSign_X1_fail : GoodIn wsX1_takeSign (wsV RX1 98 RX1 yX1_fail wsX1_fail) := goodIn_app (goodIn_of _ (by decide +kernel)) ggX1_takeSign_X1_fail
set_option maxRecDepth 20000 in
theorem ggX1_takeSign_X1_nextToken : GoodIn wsX1_takeSign wsX1_nextToken := goodIn_r _ [14, 15, 3, 16, 1, 17, 18, 2, 19, 20, 21, 22, 23, 24, 25, 7, 26, 27, 28, 29, 30, 31, 32, 33, 34, 35, 36, 37] (by decide +kernel) (by decide +kernel)
set_option maxRecDepth 20000 in
theorem gX1_takeSign_X1_nextToken : GoodIn wsX1_takeSign (wsV RX1 60 RX1 yX1_nextToken wsX1_nextToken) := goodIn_app (goodIn_of _ (by decide +kernel)) ggX1_takeSign_X1_nextToken
theorem dX1_takeSign_0 : decode cX1_takeSign 0 = .ok (.aload_n 0, 1) := by decide +kernel
theorem dX1_takeSign_1 : decode cX1_takeSign 1 = .ok (.getfield 32, 3) := by decide +kernel
theorem dX1_takeSign_4 : decode cX1_takeSign 4 = .ok (.iconst 3, 1) := by decide +kernel
theorem dX1_takeSign_5 : decode cX1_takeSign 5 = .ok (.if_icmp .ne 16, 3) := by decide +kernel
theorem dX1_takeSign_8 : decode cX1_takeSign 8 = .ok (.aload_n 0, 1) := by decide +kernel
theorem dX1_takeSign_9 : decode cX1_takeSign 9 = .ok (.getfield 44, 3) := by decide +kernel
theorem dX1_takeSign_12 : decode cX1_takeSign 12 = .ok (.aload_n 0, 1) := by decide +kernel
theorem dX1_takeSign_13 : decode cX1_takeSign 13 = .ok (.getfield 35, 3) := by decide +kernel
theorem dX1_takeSign_16 : decode cX1_takeSign 16 = .ok (.baload, 1) := by decide +kernel
theorem dX1_takeSign_17 : decode cX1_takeSign 17 = .ok (.iload_n 1, 1) := by decide +kernel
theorem dX1_takeSign_18 : decode cX1_takeSign 18 = .ok (.if_icmp .eq 14, 3) := by decide +kernel
theorem dX1_takeSign_21 : decode cX1_takeSign 21 = .ok (.aload_n 0, 1) := by decide +kernel
theorem dX1_takeSign_22 : decode cX1_takeSign 22 = .ok (.bipush (-2), 2) := by decide +kernel
theorem dX1_takeSign_24 : decode cX1_takeSign 24 = .ok (.aload_n 0, 1) := by decide +kernel
theorem dX1_takeSign_25 : decode cX1_takeSign 25 = .ok (.getfield 35, 3) := by decide +kernel
theorem dX1_takeSign_28 : decode cX1_takeSign 28 = .ok (.invokevirtual 98, 3) := by decide +kernel
theorem dX1_takeSign_31 : decode cX1_takeSign 31 = .ok (.return_, 1) := by decide +kernel
theorem dX1_takeSign_32 : decode cX1_takeSign 32 = .ok (.aload_n 0, 1) := by decide +kernel
theorem dX1_takeSign_33 : decode cX1_takeSign 33 = .ok (.invokevirtual 60, 3) := by decide +kernel
theorem dX1_takeSign_36 : decode cX1_takeSign 36 = .ok (.return_, 1) := by decide +kernel
theorem dX1_fail_0 : decode cX1_fail 0 = .ok (.aload_n 0, 1) := by decide +kernel
theorem dX1_fail_1 : decode cX1_fail 1 = .ok (.getfield 18, 3) := by decide +kernel
theorem dX1_fail_4 : decode cX1_fail 4 = .ok (.ifCond .ne 13, 3) := by decide +kernel
theorem dX1_fail_7 : decode cX1_fail 7 = .ok (.aload_n 0, 1) := by decide +kernel
theorem dX1_fail_8 : decode cX1_fail 8 = .ok (.iload_n 1, 1) := by decide +kernel
theorem dX1_fail_9 : decode cX1_fail 9 = .ok (.putfield 18, 3) := by decide +kernel
theorem dX1_fail_12 : decode cX1_fail 12 = .ok (.aload_n 0, 1) := by decide +kernel
theorem dX1_fail_13 : decode cX1_fail 13 = .ok (.iload_n 2, 1) := by decide +kernel
theorem dX1_fail_14 : decode cX1_fail 14 = .ok (.putfield 22, 3) := by decide +kernel
theorem dX1_fail_17 : decode cX1_fail 17 = .ok (.return_, 1) := by decide +kernel
set_option maxRecDepth 20000 in
theorem ggX1_wordIs_J0_length_8abf5 : GoodIn wsX1_wordIs wsJ0_length_8abf5 := goodIn_r _ [9, 10, 11, 12, 13, 8, 14, 15, 16] (by decide +kernel) (by decide +kernel)
set_option maxRecDepth 20000 in
theorem gX1_wordIs_J0_length_8abf5 : GoodIn wsX1_wordIs (wsV RX1 140 RJ0 yJ0_length_8abf5 wsJ0_length_8abf5) := goodIn_app (goodIn_of _ (by decide +kernel)) ggX1_wordIs_J0_length_8abf5
set_option maxRecDepth 20000 in
theorem ggX1_wordIs_J0_charAt_5068e : GoodIn wsX1_wordIs wsJ0_charAt_5068e := goodIn_r _ [20, 10, 21, 22, 23, 8, 24, 15, 16, 25, 26, 27, 28, 29, 30, 31, 32, 33, 34, 35, 36, 37, 38, 39, 40, 41, 42, 43, 44, 45, 46, 47, 48, 49, 50, 51, 52, 53] (by decide +kernel) (by decide +kernel)
set_option maxRecDepth 20000 in
theorem gX1_wordIs_J0_charAt_5068e : GoodIn wsX1_wordIs (wsV RX1 145 RJ0 yJ0_charAt_5068e wsJ0_charAt_5068e) := goodIn_app (goodIn_of _ (by decide +kernel)) ggX1_wordIs_J0_charAt_5068e
theorem dX1_wordIs_0 : decode cX1_wordIs 0 = .ok (.aload_n 0, 1) := by decide +kernel
theorem dX1_wordIs_1 : decode cX1_wordIs 1 = .ok (.getfield 32, 3) := by decide +kernel
theorem dX1_wordIs_4 : decode cX1_wordIs 4 = .ok (.iconst 2, 1) := by decide +kernel
theorem dX1_wordIs_5 : decode cX1_wordIs 5 = .ok (.if_icmp .ne 19, 3) := by decide +kernel
theorem dX1_wordIs_8 : decode cX1_wordIs 8 = .ok (.aload_n 0, 1) := by decide +kernel
theorem dX1_wordIs_9 : decode cX1_wordIs 9 = .ok (.getfield 38, 3) := by decide +kernel
theorem dX1_wordIs_12 : decode cX1_wordIs 12 = .ok (.aload_n 0, 1) := by decide +kernel
theorem dX1_wordIs_13 : decode cX1_wordIs 13 = .ok (.getfield 35, 3) := by decide +kernel
theorem dX1_wordIs_16 : decode cX1_wordIs 16 = .ok (.isub, 1) := by decide +kernel
theorem dX1_wordIs_17 : decode cX1_wordIs 17 = .ok (.aload_n 1, 1) := by decide +kernel
theorem dX1_wordIs_18 : decode cX1_wordIs 18 = .ok (.invokevirtual 140, 3) := by decide +kernel
theorem dX1_wordIs_21 : decode cX1_wordIs 21 = .ok (.if_icmp .eq 5, 3) := by decide +kernel
theorem dX1_wordIs_24 : decode cX1_wordIs 24 = .ok (.iconst 0, 1) := by decide +kernel
theorem dX1_wordIs_25 : decode cX1_wordIs 25 = .ok (.ireturn, 1) := by decide +kernel
theorem dX1_wordIs_26 : decode cX1_wordIs 26 = .ok (.iconst 0, 1) := by decide +kernel
theorem dX1_wordIs_27 : decode cX1_wordIs 27 = .ok (.istore_n 2, 1) := by decide +kernel
theorem dX1_wordIs_28 : decode cX1_wordIs 28 = .ok (.iload_n 2, 1) := by decide +kernel
theorem dX1_wordIs_29 : decode cX1_wordIs 29 = .ok (.aload_n 1, 1) := by decide +kernel
theorem dX1_wordIs_30 : decode cX1_wordIs 30 = .ok (.invokevirtual 140, 3) := by decide +kernel
theorem dX1_wordIs_33 : decode cX1_wordIs 33 = .ok (.if_icmp .ge 30, 3) := by decide +kernel
theorem dX1_wordIs_36 : decode cX1_wordIs 36 = .ok (.aload_n 0, 1) := by decide +kernel
theorem dX1_wordIs_37 : decode cX1_wordIs 37 = .ok (.getfield 44, 3) := by decide +kernel
theorem dX1_wordIs_40 : decode cX1_wordIs 40 = .ok (.aload_n 0, 1) := by decide +kernel
theorem dX1_wordIs_41 : decode cX1_wordIs 41 = .ok (.getfield 35, 3) := by decide +kernel
theorem dX1_wordIs_44 : decode cX1_wordIs 44 = .ok (.iload_n 2, 1) := by decide +kernel
theorem dX1_wordIs_45 : decode cX1_wordIs 45 = .ok (.iadd, 1) := by decide +kernel
theorem dX1_wordIs_46 : decode cX1_wordIs 46 = .ok (.baload, 1) := by decide +kernel
theorem dX1_wordIs_47 : decode cX1_wordIs 47 = .ok (.aload_n 1, 1) := by decide +kernel
theorem dX1_wordIs_48 : decode cX1_wordIs 48 = .ok (.iload_n 2, 1) := by decide +kernel
theorem dX1_wordIs_49 : decode cX1_wordIs 49 = .ok (.invokevirtual 145, 3) := by decide +kernel
theorem dX1_wordIs_52 : decode cX1_wordIs 52 = .ok (.if_icmp .eq 5, 3) := by decide +kernel
theorem dX1_wordIs_55 : decode cX1_wordIs 55 = .ok (.iconst 0, 1) := by decide +kernel
theorem dX1_wordIs_56 : decode cX1_wordIs 56 = .ok (.ireturn, 1) := by decide +kernel
theorem dX1_wordIs_57 : decode cX1_wordIs 57 = .ok (.iinc 2 1, 3) := by decide +kernel
theorem dX1_wordIs_60 : decode cX1_wordIs 60 = .ok (.goto (-32), 3) := by decide +kernel
theorem dX1_wordIs_63 : decode cX1_wordIs 63 = .ok (.iconst 1, 1) := by decide +kernel
theorem dX1_wordIs_64 : decode cX1_wordIs 64 = .ok (.ireturn, 1) := by decide +kernel
set_option maxRecDepth 20000 in
theorem ggX1_nextToken_X1_kindAt : GoodIn wsX1_nextToken wsX1_kindAt := goodIn_r _ [16, 3, 7, 17, 18, 19, 20, 21, 22, 23, 24, 25, 26, 27] (by decide +kernel) (by decide +kernel)
set_option maxRecDepth 20000 in
theorem gX1_nextToken_X1_kindAt : GoodIn wsX1_nextToken (wsV RX1 149 RX1 yX1_kindAt wsX1_kindAt) := goodIn_app (goodIn_of _ (by decide +kernel)) ggX1_nextToken_X1_kindAt
theorem dX1_nextToken_0 : decode cX1_nextToken 0 = .ok (.aload_n 0, 1) := by decide +kernel
theorem dX1_nextToken_1 : decode cX1_nextToken 1 = .ok (.aload_n 0, 1) := by decide +kernel
theorem dX1_nextToken_2 : decode cX1_nextToken 2 = .ok (.getfield 38, 3) := by decide +kernel
theorem dX1_nextToken_5 : decode cX1_nextToken 5 = .ok (.putfield 35, 3) := by decide +kernel
theorem dX1_nextToken_8 : decode cX1_nextToken 8 = .ok (.aload_n 0, 1) := by decide +kernel
theorem dX1_nextToken_9 : decode cX1_nextToken 9 = .ok (.getfield 35, 3) := by decide +kernel
theorem dX1_nextToken_12 : decode cX1_nextToken 12 = .ok (.aload_n 0, 1) := by decide +kernel
theorem dX1_nextToken_13 : decode cX1_nextToken 13 = .ok (.getfield 57, 3) := by decide +kernel
theorem dX1_nextToken_16 : decode cX1_nextToken 16 = .ok (.if_icmp .ge 28, 3) := by decide +kernel
theorem dX1_nextToken_19 : decode cX1_nextToken 19 = .ok (.aload_n 0, 1) := by decide +kernel
theorem dX1_nextToken_20 : decode cX1_nextToken 20 = .ok (.aload_n 0, 1) := by decide +kernel
theorem dX1_nextToken_21 : decode cX1_nextToken 21 = .ok (.getfield 35, 3) := by decide +kernel
theorem dX1_nextToken_24 : decode cX1_nextToken 24 = .ok (.invokevirtual 149, 3) := by decide +kernel
theorem dX1_nextToken_27 : decode cX1_nextToken 27 = .ok (.iconst 4, 1) := by decide +kernel
theorem dX1_nextToken_28 : decode cX1_nextToken 28 = .ok (.if_icmp .ne 16, 3) := by decide +kernel
theorem dX1_nextToken_31 : decode cX1_nextToken 31 = .ok (.aload_n 0, 1) := by decide +kernel
theorem dX1_nextToken_32 : decode cX1_nextToken 32 = .ok (.dup, 1) := by decide +kernel
theorem dX1_nextToken_33 : decode cX1_nextToken 33 = .ok (.getfield 35, 3) := by decide +kernel
theorem dX1_nextToken_36 : decode cX1_nextToken 36 = .ok (.iconst 1, 1) := by decide +kernel
theorem dX1_nextToken_37 : decode cX1_nextToken 37 = .ok (.iadd, 1) := by decide +kernel
theorem dX1_nextToken_38 : decode cX1_nextToken 38 = .ok (.putfield 35, 3) := by decide +kernel
theorem dX1_nextToken_41 : decode cX1_nextToken 41 = .ok (.goto (-33), 3) := by decide +kernel
theorem dX1_nextToken_44 : decode cX1_nextToken 44 = .ok (.aload_n 0, 1) := by decide +kernel
theorem dX1_nextToken_45 : decode cX1_nextToken 45 = .ok (.aload_n 0, 1) := by decide +kernel
theorem dX1_nextToken_46 : decode cX1_nextToken 46 = .ok (.aload_n 0, 1) := by decide +kernel
theorem dX1_nextToken_47 : decode cX1_nextToken 47 = .ok (.getfield 35, 3) := by decide +kernel
theorem dX1_nextToken_50 : decode cX1_nextToken 50 = .ok (.invokevirtual 149, 3) := by decide +kernel
theorem dX1_nextToken_53 : decode cX1_nextToken 53 = .ok (.putfield 32, 3) := by decide +kernel
theorem dX1_nextToken_56 : decode cX1_nextToken 56 = .ok (.aload_n 0, 1) := by decide +kernel
theorem dX1_nextToken_57 : decode cX1_nextToken 57 = .ok (.iconst 0, 1) := by decide +kernel
theorem dX1_nextToken_58 : decode cX1_nextToken 58 = .ok (.putfield 41, 3) := by decide +kernel
theorem dX1_nextToken_61 : decode cX1_nextToken 61 = .ok (.aload_n 0, 1) := by decide +kernel
theorem dX1_nextToken_62 : decode cX1_nextToken 62 = .ok (.aload_n 0, 1) := by decide +kernel
theorem dX1_nextToken_63 : decode cX1_nextToken 63 = .ok (.getfield 35, 3) := by decide +kernel
theorem dX1_nextToken_66 : decode cX1_nextToken 66 = .ok (.putfield 38, 3) := by decide +kernel
theorem dX1_nextToken_69 : decode cX1_nextToken 69 = .ok (.aload_n 0, 1) := by decide +kernel
theorem dX1_nextToken_70 : decode cX1_nextToken 70 = .ok (.getfield 32, 3) := by decide +kernel
theorem dX1_nextToken_73 : decode cX1_nextToken 73 = .ok (.iconst 3, 1) := by decide +kernel
theorem dX1_nextToken_74 : decode cX1_nextToken 74 = .ok (.if_icmp .eq 11, 3) := by decide +kernel
theorem dX1_nextToken_77 : decode cX1_nextToken 77 = .ok (.aload_n 0, 1) := by decide +kernel
theorem dX1_nextToken_78 : decode cX1_nextToken 78 = .ok (.getfield 32, 3) := by decide +kernel
theorem dX1_nextToken_81 : decode cX1_nextToken 81 = .ok (.iconst 5, 1) := by decide +kernel
theorem dX1_nextToken_82 : decode cX1_nextToken 82 = .ok (.if_icmp .ne 14, 3) := by decide +kernel
theorem dX1_nextToken_85 : decode cX1_nextToken 85 = .ok (.aload_n 0, 1) := by decide +kernel
theorem dX1_nextToken_86 : decode cX1_nextToken 86 = .ok (.dup, 1) := by decide +kernel
theorem dX1_nextToken_87 : decode cX1_nextToken 87 = .ok (.getfield 38, 3) := by decide +kernel
theorem dX1_nextToken_90 : decode cX1_nextToken 90 = .ok (.iconst 1, 1) := by decide +kernel
theorem dX1_nextToken_91 : decode cX1_nextToken 91 = .ok (.iadd, 1) := by decide +kernel
theorem dX1_nextToken_92 : decode cX1_nextToken 92 = .ok (.putfield 38, 3) := by decide +kernel
theorem dX1_nextToken_95 : decode cX1_nextToken 95 = .ok (.return_, 1) := by decide +kernel
theorem dX1_nextToken_96 : decode cX1_nextToken 96 = .ok (.aload_n 0, 1) := by decide +kernel
theorem dX1_nextToken_97 : decode cX1_nextToken 97 = .ok (.getfield 38, 3) := by decide +kernel
theorem dX1_nextToken_100 : decode cX1_nextToken 100 = .ok (.aload_n 0, 1) := by decide +kernel
theorem dX1_nextToken_101 : decode cX1_nextToken 101 = .ok (.getfield 57, 3) := by decide +kernel
theorem dX1_nextToken_104 : decode cX1_nextToken 104 = .ok (.if_icmp .ge 68, 3) := by decide +kernel
theorem dX1_nextToken_107 : decode cX1_nextToken 107 = .ok (.aload_n 0, 1) := by decide +kernel
theorem dX1_nextToken_108 : decode cX1_nextToken 108 = .ok (.aload_n 0, 1) := by decide +kernel
theorem dX1_nextToken_109 : decode cX1_nextToken 109 = .ok (.getfield 38, 3) := by decide +kernel
theorem dX1_nextToken_112 : decode cX1_nextToken 112 = .ok (.invokevirtual 149, 3) := by decide +kernel
theorem dX1_nextToken_115 : decode cX1_nextToken 115 = .ok (.aload_n 0, 1) := by decide +kernel
theorem dX1_nextToken_116 : decode cX1_nextToken 116 = .ok (.getfield 32, 3) := by decide +kernel
theorem dX1_nextToken_119 : decode cX1_nextToken 119 = .ok (.if_icmp .ne 53, 3) := by decide +kernel
theorem dX1_nextToken_122 : decode cX1_nextToken 122 = .ok (.aload_n 0, 1) := by decide +kernel
theorem dX1_nextToken_123 : decode cX1_nextToken 123 = .ok (.getfield 32, 3) := by decide +kernel
theorem dX1_nextToken_126 : decode cX1_nextToken 126 = .ok (.iconst 1, 1) := by decide +kernel
theorem dX1_nextToken_127 : decode cX1_nextToken 127 = .ok (.if_icmp .ne 32, 3) := by decide +kernel
theorem dX1_nextToken_130 : decode cX1_nextToken 130 = .ok (.aload_n 0, 1) := by decide +kernel
theorem dX1_nextToken_131 : decode cX1_nextToken 131 = .ok (.ldc 153, 2) := by decide +kernel
theorem dX1_nextToken_133 : decode cX1_nextToken 133 = .ok (.bipush 10, 2) := by decide +kernel
theorem dX1_nextToken_135 : decode cX1_nextToken 135 = .ok (.aload_n 0, 1) := by decide +kernel
theorem dX1_nextToken_136 : decode cX1_nextToken 136 = .ok (.getfield 41, 3) := by decide +kernel
theorem dX1_nextToken_139 : decode cX1_nextToken 139 = .ok (.imul, 1) := by decide +kernel
theorem dX1_nextToken_140 : decode cX1_nextToken 140 = .ok (.aload_n 0, 1) := by decide +kernel
theorem dX1_nextToken_141 : decode cX1_nextToken 141 = .ok (.getfield 44, 3) := by decide +kernel
theorem dX1_nextToken_144 : decode cX1_nextToken 144 = .ok (.aload_n 0, 1) := by decide +kernel
theorem dX1_nextToken_145 : decode cX1_nextToken 145 = .ok (.getfield 38, 3) := by decide +kernel
theorem dX1_nextToken_148 : decode cX1_nextToken 148 = .ok (.baload, 1) := by decide +kernel
theorem dX1_nextToken_149 : decode cX1_nextToken 149 = .ok (.iadd, 1) := by decide +kernel
theorem dX1_nextToken_150 : decode cX1_nextToken 150 = .ok (.bipush 48, 2) := by decide +kernel
theorem dX1_nextToken_152 : decode cX1_nextToken 152 = .ok (.isub, 1) := by decide +kernel
theorem dX1_nextToken_153 : decode cX1_nextToken 153 = .ok (.invokestatic 48, 3) := by decide +kernel
theorem dX1_nextToken_156 : decode cX1_nextToken 156 = .ok (.putfield 41, 3) := by decide +kernel
theorem dX1_nextToken_159 : decode cX1_nextToken 159 = .ok (.aload_n 0, 1) := by decide +kernel
theorem dX1_nextToken_160 : decode cX1_nextToken 160 = .ok (.dup, 1) := by decide +kernel
theorem dX1_nextToken_161 : decode cX1_nextToken 161 = .ok (.getfield 38, 3) := by decide +kernel
theorem dX1_nextToken_164 : decode cX1_nextToken 164 = .ok (.iconst 1, 1) := by decide +kernel
theorem dX1_nextToken_165 : decode cX1_nextToken 165 = .ok (.iadd, 1) := by decide +kernel
theorem dX1_nextToken_166 : decode cX1_nextToken 166 = .ok (.putfield 38, 3) := by decide +kernel
theorem dX1_nextToken_169 : decode cX1_nextToken 169 = .ok (.goto (-73), 3) := by decide +kernel
theorem dX1_nextToken_172 : decode cX1_nextToken 172 = .ok (.return_, 1) := by decide +kernel
theorem dX1_kindAt_0 : decode cX1_kindAt 0 = .ok (.iload_n 1, 1) := by decide +kernel
theorem dX1_kindAt_1 : decode cX1_kindAt 1 = .ok (.ifCond .lt 11, 3) := by decide +kernel
theorem dX1_kindAt_4 : decode cX1_kindAt 4 = .ok (.iload_n 1, 1) := by decide +kernel
theorem dX1_kindAt_5 : decode cX1_kindAt 5 = .ok (.aload_n 0, 1) := by decide +kernel
theorem dX1_kindAt_6 : decode cX1_kindAt 6 = .ok (.getfield 57, 3) := by decide +kernel
theorem dX1_kindAt_9 : decode cX1_kindAt 9 = .ok (.if_icmp .lt 5, 3) := by decide +kernel
theorem dX1_kindAt_12 : decode cX1_kindAt 12 = .ok (.iconst 0, 1) := by decide +kernel
theorem dX1_kindAt_13 : decode cX1_kindAt 13 = .ok (.ireturn, 1) := by decide +kernel
theorem dX1_kindAt_14 : decode cX1_kindAt 14 = .ok (.aload_n 0, 1) := by decide +kernel
theorem dX1_kindAt_15 : decode cX1_kindAt 15 = .ok (.getfield 44, 3) := by decide +kernel
theorem dX1_kindAt_18 : decode cX1_kindAt 18 = .ok (.iload_n 1, 1) := by decide +kernel
theorem dX1_kindAt_19 : decode cX1_kindAt 19 = .ok (.baload, 1) := by decide +kernel
theorem dX1_kindAt_20 : decode cX1_kindAt 20 = .ok (.istore_n 2, 1) := by decide +kernel
theorem dX1_kindAt_21 : decode cX1_kindAt 21 = .ok (.iload_n 2, 1) := by decide +kernel
theorem dX1_kindAt_22 : decode cX1_kindAt 22 = .ok (.bipush 48, 2) := by decide +kernel
theorem dX1_kindAt_24 : decode cX1_kindAt 24 = .ok (.if_icmp .lt 11, 3) := by decide +kernel
theorem dX1_kindAt_27 : decode cX1_kindAt 27 = .ok (.iload_n 2, 1) := by decide +kernel
theorem dX1_kindAt_28 : decode cX1_kindAt 28 = .ok (.bipush 57, 2) := by decide +kernel
theorem dX1_kindAt_30 : decode cX1_kindAt 30 = .ok (.if_icmp .gt 5, 3) := by decide +kernel
theorem dX1_kindAt_33 : decode cX1_kindAt 33 = .ok (.iconst 1, 1) := by decide +kernel
theorem dX1_kindAt_34 : decode cX1_kindAt 34 = .ok (.ireturn, 1) := by decide +kernel
theorem dX1_kindAt_35 : decode cX1_kindAt 35 = .ok (.iload_n 2, 1) := by decide +kernel
theorem dX1_kindAt_36 : decode cX1_kindAt 36 = .ok (.bipush 97, 2) := by decide +kernel
theorem dX1_kindAt_38 : decode cX1_kindAt 38 = .ok (.if_icmp .lt 11, 3) := by decide +kernel
theorem dX1_kindAt_41 : decode cX1_kindAt 41 = .ok (.iload_n 2, 1) := by decide +kernel
theorem dX1_kindAt_42 : decode cX1_kindAt 42 = .ok (.bipush 122, 2) := by decide +kernel
theorem dX1_kindAt_44 : decode cX1_kindAt 44 = .ok (.if_icmp .gt 5, 3) := by decide +kernel
theorem dX1_kindAt_47 : decode cX1_kindAt 47 = .ok (.iconst 2, 1) := by decide +kernel
theorem dX1_kindAt_48 : decode cX1_kindAt 48 = .ok (.ireturn, 1) := by decide +kernel
theorem dX1_kindAt_49 : decode cX1_kindAt 49 = .ok (.iload_n 2, 1) := by decide +kernel
theorem dX1_kindAt_50 : decode cX1_kindAt 50 = .ok (.bipush 59, 2) := by decide +kernel
theorem dX1_kindAt_52 : decode cX1_kindAt 52 = .ok (.if_icmp .eq 15, 3) := by decide +kernel
theorem dX1_kindAt_55 : decode cX1_kindAt 55 = .ok (.iload_n 2, 1) := by decide +kernel
theorem dX1_kindAt_56 : decode cX1_kindAt 56 = .ok (.bipush 42, 2) := by decide +kernel
theorem dX1_kindAt_58 : decode cX1_kindAt 58 = .ok (.if_icmp .eq 9, 3) := by decide +kernel
theorem dX1_kindAt_61 : decode cX1_kindAt 61 = .ok (.iload_n 2, 1) := by decide +kernel
theorem dX1_kindAt_62 : decode cX1_kindAt 62 = .ok (.bipush 58, 2) := by decide +kernel
theorem dX1_kindAt_64 : decode cX1_kindAt 64 = .ok (.if_icmp .ne 5, 3) := by decide +kernel
theorem dX1_kindAt_67 : decode cX1_kindAt 67 = .ok (.iconst 3, 1) := by decide +kernel
theorem dX1_kindAt_68 : decode cX1_kindAt 68 = .ok (.ireturn, 1) := by decide +kernel
theorem dX1_kindAt_69 : decode cX1_kindAt 69 = .ok (.iload_n 2, 1) := by decide +kernel
theorem dX1_kindAt_70 : decode cX1_kindAt 70 = .ok (.bipush 32, 2) := by decide +kernel
theorem dX1_kindAt_72 : decode cX1_kindAt 72 = .ok (.if_icmp .ne 7, 3) := by decide +kernel
theorem dX1_kindAt_75 : decode cX1_kindAt 75 = .ok (.iconst 4, 1) := by decide +kernel
theorem dX1_kindAt_76 : decode cX1_kindAt 76 = .ok (.goto 4, 3) := by decide +kernel
theorem dX1_kindAt_79 : decode cX1_kindAt 79 = .ok (.iconst 5, 1) := by decide +kernel
theorem dX1_kindAt_80 : decode cX1_kindAt 80 = .ok (.ireturn, 1) := by decide +kernel
