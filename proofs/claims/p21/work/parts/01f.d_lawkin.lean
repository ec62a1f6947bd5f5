theorem dX4_init_0 : decode cX4_init 0 = .ok (.aload_n 0, 1) := by decide +kernel
theorem dX4_init_1 : decode cX4_init 1 = .ok (.invokespecial 1, 3) := by decide +kernel
theorem dX4_init_4 : decode cX4_init 4 = .ok (.aload_n 0, 1) := by decide +kernel
theorem dX4_init_5 : decode cX4_init 5 = .ok (.iload_n 1, 1) := by decide +kernel
theorem dX4_init_6 : decode cX4_init 6 = .ok (.putfield 7, 3) := by decide +kernel
theorem dX4_init_9 : decode cX4_init 9 = .ok (.return_, 1) := by decide +kernel
theorem dX4_below_0 : decode cX4_below 0 = .ok (.aload_n 0, 1) := by decide +kernel
theorem dX4_below_1 : decode cX4_below 1 = .ok (.ldc 13, 2) := by decide +kernel
theorem dX4_below_3 : decode cX4_below 3 = .ok (.aload_n 0, 1) := by decide +kernel
theorem dX4_below_4 : decode cX4_below 4 = .ok (.getfield 7, 3) := by decide +kernel
theorem dX4_below_7 : decode cX4_below 7 = .ok (.imul, 1) := by decide +kernel
theorem dX4_below_8 : decode cX4_below 8 = .ok (.sipush 12345, 3) := by decide +kernel
theorem dX4_below_11 : decode cX4_below 11 = .ok (.iadd, 1) := by decide +kernel
theorem dX4_below_12 : decode cX4_below 12 = .ok (.putfield 7, 3) := by decide +kernel
theorem dX4_below_15 : decode cX4_below 15 = .ok (.aload_n 0, 1) := by decide +kernel
theorem dX4_below_16 : decode cX4_below 16 = .ok (.getfield 7, 3) := by decide +kernel
theorem dX4_below_19 : decode cX4_below 19 = .ok (.bipush 16, 2) := by decide +kernel
theorem dX4_below_21 : decode cX4_below 21 = .ok (.iushr, 1) := by decide +kernel
theorem dX4_below_22 : decode cX4_below 22 = .ok (.iload_n 1, 1) := by decide +kernel
theorem dX4_below_23 : decode cX4_below 23 = .ok (.irem, 1) := by decide +kernel
theorem dX4_below_24 : decode cX4_below 24 = .ok (.ireturn, 1) := by decide +kernel
theorem dX5_init_0 : decode cX5_init 0 = .ok (.aload_n 0, 1) := by decide +kernel
theorem dX5_init_1 : decode cX5_init 1 = .ok (.invokespecial 1, 3) := by decide +kernel
theorem dX5_init_4 : decode cX5_init 4 = .ok (.aload_n 0, 1) := by decide +kernel
theorem dX5_init_5 : decode cX5_init 5 = .ok (.iconst (-1), 1) := by decide +kernel
theorem dX5_init_6 : decode cX5_init 6 = .ok (.putfield 7, 3) := by decide +kernel
theorem dX5_init_9 : decode cX5_init 9 = .ok (.aload_n 0, 1) := by decide +kernel
theorem dX5_init_10 : decode cX5_init 10 = .ok (.iconst (-1), 1) := by decide +kernel
theorem dX5_init_11 : decode cX5_init 11 = .ok (.putfield 13, 3) := by decide +kernel
theorem dX5_init_14 : decode cX5_init 14 = .ok (.aload_n 0, 1) := by decide +kernel
theorem dX5_init_15 : decode cX5_init 15 = .ok (.iconst 0, 1) := by decide +kernel
theorem dX5_init_16 : decode cX5_init 16 = .ok (.anewarray 16, 3) := by decide +kernel
theorem dX5_init_19 : decode cX5_init 19 = .ok (.putfield 18, 3) := by decide +kernel
theorem dX5_init_22 : decode cX5_init 22 = .ok (.return_, 1) := by decide +kernel
set_option maxRecDepth 20000 in
theorem ggX5_copy_X5_init : GoodIn wsX5_copy wsX5_init := goodIn_r _ [19, 20, 21, 22, 7, 8, 11, 10, 23, 24, 25, 26, 27, 28, 29] (by decide +kernel) (by decide +kernel)
set_option maxRecDepth 20000 in
theorem gX5_copy_X5_init : GoodIn wsX5_copy (wsX5_init) := ggX5_copy_X5_init
theorem dX5_copy_0 : decode cX5_copy 0 = .ok (.new 8, 3) := by decide +kernel
theorem dX5_copy_3 : decode cX5_copy 3 = .ok (.dup, 1) := by decide +kernel
theorem dX5_copy_4 : decode cX5_copy 4 = .ok (.invokespecial 22, 3) := by decide +kernel
theorem dX5_copy_7 : decode cX5_copy 7 = .ok (.astore_n 1, 1) := by decide +kernel
theorem dX5_copy_8 : decode cX5_copy 8 = .ok (.aload_n 1, 1) := by decide +kernel
theorem dX5_copy_9 : decode cX5_copy 9 = .ok (.aload_n 0, 1) := by decide +kernel
theorem dX5_copy_10 : decode cX5_copy 10 = .ok (.getfield 23, 3) := by decide +kernel
theorem dX5_copy_13 : decode cX5_copy 13 = .ok (.putfield 23, 3) := by decide +kernel
theorem dX5_copy_16 : decode cX5_copy 16 = .ok (.aload_n 1, 1) := by decide +kernel
theorem dX5_copy_17 : decode cX5_copy 17 = .ok (.aload_n 0, 1) := by decide +kernel
theorem dX5_copy_18 : decode cX5_copy 18 = .ok (.getfield 26, 3) := by decide +kernel
theorem dX5_copy_21 : decode cX5_copy 21 = .ok (.putfield 26, 3) := by decide +kernel
theorem dX5_copy_24 : decode cX5_copy 24 = .ok (.aload_n 1, 1) := by decide +kernel
theorem dX5_copy_25 : decode cX5_copy 25 = .ok (.aload_n 0, 1) := by decide +kernel
theorem dX5_copy_26 : decode cX5_copy 26 = .ok (.getfield 29, 3) := by decide +kernel
theorem dX5_copy_29 : decode cX5_copy 29 = .ok (.putfield 29, 3) := by decide +kernel
theorem dX5_copy_32 : decode cX5_copy 32 = .ok (.aload_n 1, 1) := by decide +kernel
theorem dX5_copy_33 : decode cX5_copy 33 = .ok (.aload_n 0, 1) := by decide +kernel
theorem dX5_copy_34 : decode cX5_copy 34 = .ok (.getfield 7, 3) := by decide +kernel
theorem dX5_copy_37 : decode cX5_copy 37 = .ok (.putfield 7, 3) := by decide +kernel
theorem dX5_copy_40 : decode cX5_copy 40 = .ok (.aload_n 1, 1) := by decide +kernel
theorem dX5_copy_41 : decode cX5_copy 41 = .ok (.aload_n 0, 1) := by decide +kernel
theorem dX5_copy_42 : decode cX5_copy 42 = .ok (.getfield 13, 3) := by decide +kernel
theorem dX5_copy_45 : decode cX5_copy 45 = .ok (.putfield 13, 3) := by decide +kernel
theorem dX5_copy_48 : decode cX5_copy 48 = .ok (.aload_n 1, 1) := by decide +kernel
theorem dX5_copy_49 : decode cX5_copy 49 = .ok (.aload_n 0, 1) := by decide +kernel
theorem dX5_copy_50 : decode cX5_copy 50 = .ok (.getfield 32, 3) := by decide +kernel
theorem dX5_copy_53 : decode cX5_copy 53 = .ok (.putfield 32, 3) := by decide +kernel
theorem dX5_copy_56 : decode cX5_copy 56 = .ok (.aload_n 1, 1) := by decide +kernel
theorem dX5_copy_57 : decode cX5_copy 57 = .ok (.aload_n 0, 1) := by decide +kernel
theorem dX5_copy_58 : decode cX5_copy 58 = .ok (.getfield 18, 3) := by decide +kernel
theorem dX5_copy_61 : decode cX5_copy 61 = .ok (.arraylength, 1) := by decide +kernel
theorem dX5_copy_62 : decode cX5_copy 62 = .ok (.anewarray 16, 3) := by decide +kernel
theorem dX5_copy_65 : decode cX5_copy 65 = .ok (.putfield 18, 3) := by decide +kernel
theorem dX5_copy_68 : decode cX5_copy 68 = .ok (.iconst 0, 1) := by decide +kernel
theorem dX5_copy_69 : decode cX5_copy 69 = .ok (.istore_n 2, 1) := by decide +kernel
theorem dX5_copy_70 : decode cX5_copy 70 = .ok (.iload_n 2, 1) := by decide +kernel
theorem dX5_copy_71 : decode cX5_copy 71 = .ok (.aload_n 0, 1) := by decide +kernel
theorem dX5_copy_72 : decode cX5_copy 72 = .ok (.getfield 18, 3) := by decide +kernel
theorem dX5_copy_75 : decode cX5_copy 75 = .ok (.arraylength, 1) := by decide +kernel
theorem dX5_copy_76 : decode cX5_copy 76 = .ok (.if_icmp .ge 27, 3) := by decide +kernel
theorem dX5_copy_79 : decode cX5_copy 79 = .ok (.aload_n 1, 1) := by decide +kernel
theorem dX5_copy_80 : decode cX5_copy 80 = .ok (.getfield 18, 3) := by decide +kernel
theorem dX5_copy_83 : decode cX5_copy 83 = .ok (.iload_n 2, 1) := by decide +kernel
theorem dX5_copy_84 : decode cX5_copy 84 = .ok (.aload_n 0, 1) := by decide +kernel
theorem dX5_copy_85 : decode cX5_copy 85 = .ok (.getfield 18, 3) := by decide +kernel
theorem dX5_copy_88 : decode cX5_copy 88 = .ok (.iload_n 2, 1) := by decide +kernel
theorem dX5_copy_89 : decode cX5_copy 89 = .ok (.aaload, 1) := by decide +kernel
theorem dX5_copy_90 : decode cX5_copy 90 = .ok (.invokevirtual 35, 3) := by decide +kernel
theorem dX5_copy_93 : decode cX5_copy 93 = .ok (.checkcast 16, 3) := by decide +kernel
theorem dX5_copy_96 : decode cX5_copy 96 = .ok (.aastore, 1) := by decide +kernel
theorem dX5_copy_97 : decode cX5_copy 97 = .ok (.iinc 2 1, 3) := by decide +kernel
theorem dX5_copy_100 : decode cX5_copy 100 = .ok (.goto (-30), 3) := by decide +kernel
theorem dX5_copy_103 : decode cX5_copy 103 = .ok (.aload_n 1, 1) := by decide +kernel
theorem dX5_copy_104 : decode cX5_copy 104 = .ok (.areturn, 1) := by decide +kernel
theorem dX5_isOpen_0 : decode cX5_isOpen 0 = .ok (.aload_n 0, 1) := by decide +kernel
theorem dX5_isOpen_1 : decode cX5_isOpen 1 = .ok (.getfield 29, 3) := by decide +kernel
theorem dX5_isOpen_4 : decode cX5_isOpen 4 = .ok (.iconst 3, 1) := by decide +kernel
theorem dX5_isOpen_5 : decode cX5_isOpen 5 = .ok (.if_icmp .eq 15, 3) := by decide +kernel
theorem dX5_isOpen_8 : decode cX5_isOpen 8 = .ok (.aload_n 0, 1) := by decide +kernel
theorem dX5_isOpen_9 : decode cX5_isOpen 9 = .ok (.getfield 29, 3) := by decide +kernel
theorem dX5_isOpen_12 : decode cX5_isOpen 12 = .ok (.iconst 4, 1) := by decide +kernel
theorem dX5_isOpen_13 : decode cX5_isOpen 13 = .ok (.if_icmp .eq 7, 3) := by decide +kernel
theorem dX5_isOpen_16 : decode cX5_isOpen 16 = .ok (.iconst 1, 1) := by decide +kernel
theorem dX5_isOpen_17 : decode cX5_isOpen 17 = .ok (.goto 4, 3) := by decide +kernel
theorem dX5_isOpen_20 : decode cX5_isOpen 20 = .ok (.iconst 0, 1) := by decide +kernel
theorem dX5_isOpen_21 : decode cX5_isOpen 21 = .ok (.ireturn, 1) := by decide +kernel
set_option maxRecDepth 20000 in
theorem ggX5_holds_X5_isOpen : GoodIn wsX5_holds wsX5_isOpen := goodIn_r _ [6, 7, 8, 9, 10, 11, 12, 13, 14] (by decide +kernel) (by decide +kernel)
set_option maxRecDepth 20000 in
theorem gX5_holds_X5_isOpen : GoodIn wsX5_holds (wsV RX5 39 RX5 yX5_isOpen wsX5_isOpen) := goodIn_app (goodIn_of _ (by decide +kernel)) ggX5_holds_X5_isOpen
theorem dX5_holds_0 : decode cX5_holds 0 = .ok (.iconst 0, 1) := by decide +kernel
theorem dX5_holds_1 : decode cX5_holds 1 = .ok (.istore_n 2, 1) := by decide +kernel
theorem dX5_holds_2 : decode cX5_holds 2 = .ok (.aload_n 0, 1) := by decide +kernel
theorem dX5_holds_3 : decode cX5_holds 3 = .ok (.getfield 18, 3) := by decide +kernel
theorem dX5_holds_6 : decode cX5_holds 6 = .ok (.astore_n 3, 1) := by decide +kernel
theorem dX5_holds_7 : decode cX5_holds 7 = .ok (.aload_n 3, 1) := by decide +kernel
theorem dX5_holds_8 : decode cX5_holds 8 = .ok (.arraylength, 1) := by decide +kernel
theorem dX5_holds_9 : decode cX5_holds 9 = .ok (.istore 4, 2) := by decide +kernel
theorem dX5_holds_11 : decode cX5_holds 11 = .ok (.iconst 0, 1) := by decide +kernel
theorem dX5_holds_12 : decode cX5_holds 12 = .ok (.istore 5, 2) := by decide +kernel
theorem dX5_holds_14 : decode cX5_holds 14 = .ok (.iload 5, 2) := by decide +kernel
theorem dX5_holds_16 : decode cX5_holds 16 = .ok (.iload 4, 2) := by decide +kernel
theorem dX5_holds_18 : decode cX5_holds 18 = .ok (.if_icmp .ge 47, 3) := by decide +kernel
theorem dX5_holds_21 : decode cX5_holds 21 = .ok (.aload_n 3, 1) := by decide +kernel
theorem dX5_holds_22 : decode cX5_holds 22 = .ok (.iload 5, 2) := by decide +kernel
theorem dX5_holds_24 : decode cX5_holds 24 = .ok (.aaload, 1) := by decide +kernel
theorem dX5_holds_25 : decode cX5_holds 25 = .ok (.astore 6, 2) := by decide +kernel
theorem dX5_holds_27 : decode cX5_holds 27 = .ok (.iload_n 2, 1) := by decide +kernel
theorem dX5_holds_28 : decode cX5_holds 28 = .ok (.aload 6, 2) := by decide +kernel
theorem dX5_holds_30 : decode cX5_holds 30 = .ok (.iconst 1, 1) := by decide +kernel
theorem dX5_holds_31 : decode cX5_holds 31 = .ok (.iaload, 1) := by decide +kernel
theorem dX5_holds_32 : decode cX5_holds 32 = .ok (.iload_n 1, 1) := by decide +kernel
theorem dX5_holds_33 : decode cX5_holds 33 = .ok (.if_icmp .ne 23, 3) := by decide +kernel
theorem dX5_holds_36 : decode cX5_holds 36 = .ok (.aload 6, 2) := by decide +kernel
theorem dX5_holds_38 : decode cX5_holds 38 = .ok (.iconst 4, 1) := by decide +kernel
theorem dX5_holds_39 : decode cX5_holds 39 = .ok (.iaload, 1) := by decide +kernel
theorem dX5_holds_40 : decode cX5_holds 40 = .ok (.iconst 2, 1) := by decide +kernel
theorem dX5_holds_41 : decode cX5_holds 41 = .ok (.if_icmp .eq 11, 3) := by decide +kernel
theorem dX5_holds_44 : decode cX5_holds 44 = .ok (.aload 6, 2) := by decide +kernel
theorem dX5_holds_46 : decode cX5_holds 46 = .ok (.iconst 4, 1) := by decide +kernel
theorem dX5_holds_47 : decode cX5_holds 47 = .ok (.iaload, 1) := by decide +kernel
theorem dX5_holds_48 : decode cX5_holds 48 = .ok (.iconst 3, 1) := by decide +kernel
theorem dX5_holds_49 : decode cX5_holds 49 = .ok (.if_icmp .ne 7, 3) := by decide +kernel
theorem dX5_holds_52 : decode cX5_holds 52 = .ok (.iconst 1, 1) := by decide +kernel
theorem dX5_holds_53 : decode cX5_holds 53 = .ok (.goto 4, 3) := by decide +kernel
theorem dX5_holds_56 : decode cX5_holds 56 = .ok (.iconst 0, 1) := by decide +kernel
theorem dX5_holds_57 : decode cX5_holds 57 = .ok (.ior, 1) := by decide +kernel
theorem dX5_holds_58 : decode cX5_holds 58 = .ok (.istore_n 2, 1) := by decide +kernel
theorem dX5_holds_59 : decode cX5_holds 59 = .ok (.iinc 5 1, 3) := by decide +kernel
theorem dX5_holds_62 : decode cX5_holds 62 = .ok (.goto (-48), 3) := by decide +kernel
theorem dX5_holds_65 : decode cX5_holds 65 = .ok (.iload_n 2, 1) := by decide +kernel
theorem dX5_holds_66 : decode cX5_holds 66 = .ok (.ifCond .eq 14, 3) := by decide +kernel
theorem dX5_holds_69 : decode cX5_holds 69 = .ok (.aload_n 0, 1) := by decide +kernel
theorem dX5_holds_70 : decode cX5_holds 70 = .ok (.invokevirtual 39, 3) := by decide +kernel
theorem dX5_holds_73 : decode cX5_holds 73 = .ok (.ifCond .eq 7, 3) := by decide +kernel
theorem dX5_holds_76 : decode cX5_holds 76 = .ok (.iconst 1, 1) := by decide +kernel
theorem dX5_holds_77 : decode cX5_holds 77 = .ok (.goto 4, 3) := by decide +kernel
theorem dX5_holds_80 : decode cX5_holds 80 = .ok (.iconst 0, 1) := by decide +kernel
theorem dX5_holds_81 : decode cX5_holds 81 = .ok (.ireturn, 1) := by decide +kernel
theorem dX5_count_0 : decode cX5_count 0 = .ok (.iconst 0, 1) := by decide +kernel
theorem dX5_count_1 : decode cX5_count 1 = .ok (.istore_n 3, 1) := by decide +kernel
theorem dX5_count_2 : decode cX5_count 2 = .ok (.aload_n 0, 1) := by decide +kernel
theorem dX5_count_3 : decode cX5_count 3 = .ok (.getfield 18, 3) := by decide +kernel
theorem dX5_count_6 : decode cX5_count 6 = .ok (.astore 4, 2) := by decide +kernel
theorem dX5_count_8 : decode cX5_count 8 = .ok (.aload 4, 2) := by decide +kernel
theorem dX5_count_10 : decode cX5_count 10 = .ok (.arraylength, 1) := by decide +kernel
theorem dX5_count_11 : decode cX5_count 11 = .ok (.istore 5, 2) := by decide +kernel
theorem dX5_count_13 : decode cX5_count 13 = .ok (.iconst 0, 1) := by decide +kernel
theorem dX5_count_14 : decode cX5_count 14 = .ok (.istore 6, 2) := by decide +kernel
theorem dX5_count_16 : decode cX5_count 16 = .ok (.iload 6, 2) := by decide +kernel
theorem dX5_count_18 : decode cX5_count 18 = .ok (.iload 5, 2) := by decide +kernel
theorem dX5_count_20 : decode cX5_count 20 = .ok (.if_icmp .ge 35, 3) := by decide +kernel
theorem dX5_count_23 : decode cX5_count 23 = .ok (.aload 4, 2) := by decide +kernel
theorem dX5_count_25 : decode cX5_count 25 = .ok (.iload 6, 2) := by decide +kernel
theorem dX5_count_27 : decode cX5_count 27 = .ok (.aaload, 1) := by decide +kernel
theorem dX5_count_28 : decode cX5_count 28 = .ok (.astore 7, 2) := by decide +kernel
theorem dX5_count_30 : decode cX5_count 30 = .ok (.aload 7, 2) := by decide +kernel
theorem dX5_count_32 : decode cX5_count 32 = .ok (.iconst 0, 1) := by decide +kernel
theorem dX5_count_33 : decode cX5_count 33 = .ok (.iaload, 1) := by decide +kernel
theorem dX5_count_34 : decode cX5_count 34 = .ok (.iload_n 1, 1) := by decide +kernel
theorem dX5_count_35 : decode cX5_count 35 = .ok (.if_icmp .ne 14, 3) := by decide +kernel
theorem dX5_count_38 : decode cX5_count 38 = .ok (.aload 7, 2) := by decide +kernel
theorem dX5_count_40 : decode cX5_count 40 = .ok (.iconst 4, 1) := by decide +kernel
theorem dX5_count_41 : decode cX5_count 41 = .ok (.iaload, 1) := by decide +kernel
theorem dX5_count_42 : decode cX5_count 42 = .ok (.iload_n 2, 1) := by decide +kernel
theorem dX5_count_43 : decode cX5_count 43 = .ok (.if_icmp .ne 6, 3) := by decide +kernel
theorem dX5_count_46 : decode cX5_count 46 = .ok (.iinc 3 1, 3) := by decide +kernel
theorem dX5_count_49 : decode cX5_count 49 = .ok (.iinc 6 1, 3) := by decide +kernel
theorem dX5_count_52 : decode cX5_count 52 = .ok (.goto (-36), 3) := by decide +kernel
theorem dX5_count_55 : decode cX5_count 55 = .ok (.iload_n 3, 1) := by decide +kernel
theorem dX5_count_56 : decode cX5_count 56 = .ok (.ireturn, 1) := by decide +kernel
theorem dX5_size_0 : decode cX5_size 0 = .ok (.iconst 0, 1) := by decide +kernel
theorem dX5_size_1 : decode cX5_size 1 = .ok (.istore_n 2, 1) := by decide +kernel
theorem dX5_size_2 : decode cX5_size 2 = .ok (.aload_n 0, 1) := by decide +kernel
theorem dX5_size_3 : decode cX5_size 3 = .ok (.getfield 18, 3) := by decide +kernel
theorem dX5_size_6 : decode cX5_size 6 = .ok (.astore_n 3, 1) := by decide +kernel
theorem dX5_size_7 : decode cX5_size 7 = .ok (.aload_n 3, 1) := by decide +kernel
theorem dX5_size_8 : decode cX5_size 8 = .ok (.arraylength, 1) := by decide +kernel
theorem dX5_size_9 : decode cX5_size 9 = .ok (.istore 4, 2) := by decide +kernel
theorem dX5_size_11 : decode cX5_size 11 = .ok (.iconst 0, 1) := by decide +kernel
theorem dX5_size_12 : decode cX5_size 12 = .ok (.istore 5, 2) := by decide +kernel
theorem dX5_size_14 : decode cX5_size 14 = .ok (.iload 5, 2) := by decide +kernel
theorem dX5_size_16 : decode cX5_size 16 = .ok (.iload 4, 2) := by decide +kernel
theorem dX5_size_18 : decode cX5_size 18 = .ok (.if_icmp .ge 26, 3) := by decide +kernel
theorem dX5_size_21 : decode cX5_size 21 = .ok (.aload_n 3, 1) := by decide +kernel
theorem dX5_size_22 : decode cX5_size 22 = .ok (.iload 5, 2) := by decide +kernel
theorem dX5_size_24 : decode cX5_size 24 = .ok (.aaload, 1) := by decide +kernel
theorem dX5_size_25 : decode cX5_size 25 = .ok (.astore 6, 2) := by decide +kernel
theorem dX5_size_27 : decode cX5_size 27 = .ok (.aload 6, 2) := by decide +kernel
theorem dX5_size_29 : decode cX5_size 29 = .ok (.iconst 0, 1) := by decide +kernel
theorem dX5_size_30 : decode cX5_size 30 = .ok (.iaload, 1) := by decide +kernel
theorem dX5_size_31 : decode cX5_size 31 = .ok (.iload_n 1, 1) := by decide +kernel
theorem dX5_size_32 : decode cX5_size 32 = .ok (.if_icmp .ne 6, 3) := by decide +kernel
theorem dX5_size_35 : decode cX5_size 35 = .ok (.iinc 2 1, 3) := by decide +kernel
theorem dX5_size_38 : decode cX5_size 38 = .ok (.iinc 5 1, 3) := by decide +kernel
theorem dX5_size_41 : decode cX5_size 41 = .ok (.goto (-27), 3) := by decide +kernel
theorem dX5_size_44 : decode cX5_size 44 = .ok (.iload_n 2, 1) := by decide +kernel
theorem dX5_size_45 : decode cX5_size 45 = .ok (.ireturn, 1) := by decide +kernel
set_option maxRecDepth 20000 in
theorem ggX5_isFinished_X5_count : GoodIn wsX5_isFinished wsX5_count := goodIn_r _ [5, 6, 11, 12, 13, 14, 15, 16, 17] (by decide +kernel) (by decide +kernel)
set_option maxRecDepth 20000 in
theorem gX5_isFinished_X5_count : GoodIn wsX5_isFinished (wsV RX5 43 RX5 yX5_count wsX5_count) := goodIn_app (goodIn_of _ (by decide +kernel)) ggX5_isFinished_X5_count
set_option maxRecDepth 20000 in
theorem ggX5_isFinished_X5_size : GoodIn wsX5_isFinished wsX5_size := goodIn_r _ [10, 6, 11, 12, 13, 14, 15, 16, 17] (by decide +kernel) (by decide +kernel)
set_option maxRecDepth 20000 in
theorem gX5_isFinished_X5_size : GoodIn wsX5_isFinished (wsV RX5 47 RX5 yX5_size wsX5_size) := goodIn_app (goodIn_of _ (by decide +kernel)) ggX5_isFinished_X5_size
theorem dX5_isFinished_0 : decode cX5_isFinished 0 = .ok (.aload_n 0, 1) := by decide +kernel
theorem dX5_isFinished_1 : decode cX5_isFinished 1 = .ok (.iload_n 1, 1) := by decide +kernel
theorem dX5_isFinished_2 : decode cX5_isFinished 2 = .ok (.iconst 3, 1) := by decide +kernel
theorem dX5_isFinished_3 : decode cX5_isFinished 3 = .ok (.invokevirtual 43, 3) := by decide +kernel
theorem dX5_isFinished_6 : decode cX5_isFinished 6 = .ok (.aload_n 0, 1) := by decide +kernel
theorem dX5_isFinished_7 : decode cX5_isFinished 7 = .ok (.iload_n 1, 1) := by decide +kernel
theorem dX5_isFinished_8 : decode cX5_isFinished 8 = .ok (.bipush 6, 2) := by decide +kernel
theorem dX5_isFinished_10 : decode cX5_isFinished 10 = .ok (.invokevirtual 43, 3) := by decide +kernel
theorem dX5_isFinished_13 : decode cX5_isFinished 13 = .ok (.iadd, 1) := by decide +kernel
theorem dX5_isFinished_14 : decode cX5_isFinished 14 = .ok (.aload_n 0, 1) := by decide +kernel
theorem dX5_isFinished_15 : decode cX5_isFinished 15 = .ok (.iload_n 1, 1) := by decide +kernel
theorem dX5_isFinished_16 : decode cX5_isFinished 16 = .ok (.invokevirtual 47, 3) := by decide +kernel
theorem dX5_isFinished_19 : decode cX5_isFinished 19 = .ok (.if_icmp .ne 7, 3) := by decide +kernel
theorem dX5_isFinished_22 : decode cX5_isFinished 22 = .ok (.iconst 1, 1) := by decide +kernel
theorem dX5_isFinished_23 : decode cX5_isFinished 23 = .ok (.goto 4, 3) := by decide +kernel
theorem dX5_isFinished_26 : decode cX5_isFinished 26 = .ok (.iconst 0, 1) := by decide +kernel
theorem dX5_isFinished_27 : decode cX5_isFinished 27 = .ok (.ireturn, 1) := by decide +kernel
theorem dX5_last_0 : decode cX5_last 0 = .ok (.iconst (-1), 1) := by decide +kernel
theorem dX5_last_1 : decode cX5_last 1 = .ok (.istore_n 1, 1) := by decide +kernel
theorem dX5_last_2 : decode cX5_last 2 = .ok (.iconst 0, 1) := by decide +kernel
theorem dX5_last_3 : decode cX5_last 3 = .ok (.istore_n 2, 1) := by decide +kernel
theorem dX5_last_4 : decode cX5_last 4 = .ok (.iload_n 2, 1) := by decide +kernel
theorem dX5_last_5 : decode cX5_last 5 = .ok (.aload_n 0, 1) := by decide +kernel
theorem dX5_last_6 : decode cX5_last 6 = .ok (.getfield 18, 3) := by decide +kernel
theorem dX5_last_9 : decode cX5_last 9 = .ok (.arraylength, 1) := by decide +kernel
theorem dX5_last_10 : decode cX5_last 10 = .ok (.if_icmp .ge 23, 3) := by decide +kernel
theorem dX5_last_13 : decode cX5_last 13 = .ok (.aload_n 0, 1) := by decide +kernel
theorem dX5_last_14 : decode cX5_last 14 = .ok (.getfield 18, 3) := by decide +kernel
theorem dX5_last_17 : decode cX5_last 17 = .ok (.iload_n 2, 1) := by decide +kernel
theorem dX5_last_18 : decode cX5_last 18 = .ok (.aaload, 1) := by decide +kernel
theorem dX5_last_19 : decode cX5_last 19 = .ok (.iconst 4, 1) := by decide +kernel
theorem dX5_last_20 : decode cX5_last 20 = .ok (.iaload, 1) := by decide +kernel
theorem dX5_last_21 : decode cX5_last 21 = .ok (.iconst 3, 1) := by decide +kernel
theorem dX5_last_22 : decode cX5_last 22 = .ok (.if_icmp .ne 5, 3) := by decide +kernel
theorem dX5_last_25 : decode cX5_last 25 = .ok (.iload_n 2, 1) := by decide +kernel
theorem dX5_last_26 : decode cX5_last 26 = .ok (.istore_n 1, 1) := by decide +kernel
theorem dX5_last_27 : decode cX5_last 27 = .ok (.iinc 2 1, 3) := by decide +kernel
theorem dX5_last_30 : decode cX5_last 30 = .ok (.goto (-26), 3) := by decide +kernel
theorem dX5_last_33 : decode cX5_last 33 = .ok (.iload_n 1, 1) := by decide +kernel
theorem dX5_last_34 : decode cX5_last 34 = .ok (.ireturn, 1) := by decide +kernel
theorem dX5_opens_0 : decode cX5_opens 0 = .ok (.aload_n 0, 1) := by decide +kernel
theorem dX5_opens_1 : decode cX5_opens 1 = .ok (.iload_n 1, 1) := by decide +kernel
theorem dX5_opens_2 : decode cX5_opens 2 = .ok (.putfield 7, 3) := by decide +kernel
theorem dX5_opens_5 : decode cX5_opens 5 = .ok (.aload_n 0, 1) := by decide +kernel
theorem dX5_opens_6 : decode cX5_opens 6 = .ok (.getfield 18, 3) := by decide +kernel
theorem dX5_opens_9 : decode cX5_opens 9 = .ok (.astore_n 2, 1) := by decide +kernel
theorem dX5_opens_10 : decode cX5_opens 10 = .ok (.aload_n 2, 1) := by decide +kernel
theorem dX5_opens_11 : decode cX5_opens 11 = .ok (.arraylength, 1) := by decide +kernel
theorem dX5_opens_12 : decode cX5_opens 12 = .ok (.istore_n 3, 1) := by decide +kernel
theorem dX5_opens_13 : decode cX5_opens 13 = .ok (.iconst 0, 1) := by decide +kernel
theorem dX5_opens_14 : decode cX5_opens 14 = .ok (.istore 4, 2) := by decide +kernel
theorem dX5_opens_16 : decode cX5_opens 16 = .ok (.iload 4, 2) := by decide +kernel
theorem dX5_opens_18 : decode cX5_opens 18 = .ok (.iload_n 3, 1) := by decide +kernel
theorem dX5_opens_19 : decode cX5_opens 19 = .ok (.if_icmp .ge 47, 3) := by decide +kernel
theorem dX5_opens_22 : decode cX5_opens 22 = .ok (.aload_n 2, 1) := by decide +kernel
theorem dX5_opens_23 : decode cX5_opens 23 = .ok (.iload 4, 2) := by decide +kernel
theorem dX5_opens_25 : decode cX5_opens 25 = .ok (.aaload, 1) := by decide +kernel
theorem dX5_opens_26 : decode cX5_opens 26 = .ok (.astore 5, 2) := by decide +kernel
theorem dX5_opens_28 : decode cX5_opens 28 = .ok (.aload 5, 2) := by decide +kernel
theorem dX5_opens_30 : decode cX5_opens 30 = .ok (.iconst 0, 1) := by decide +kernel
theorem dX5_opens_31 : decode cX5_opens 31 = .ok (.iaload, 1) := by decide +kernel
theorem dX5_opens_32 : decode cX5_opens 32 = .ok (.aload_n 0, 1) := by decide +kernel
theorem dX5_opens_33 : decode cX5_opens 33 = .ok (.getfield 7, 3) := by decide +kernel
theorem dX5_opens_36 : decode cX5_opens 36 = .ok (.if_icmp .ne 24, 3) := by decide +kernel
theorem dX5_opens_39 : decode cX5_opens 39 = .ok (.aload 5, 2) := by decide +kernel
theorem dX5_opens_41 : decode cX5_opens 41 = .ok (.iconst 4, 1) := by decide +kernel
theorem dX5_opens_42 : decode cX5_opens 42 = .ok (.iaload, 1) := by decide +kernel
theorem dX5_opens_43 : decode cX5_opens 43 = .ok (.ifCond .eq 6, 3) := by decide +kernel
theorem dX5_opens_46 : decode cX5_opens 46 = .ok (.goto 14, 3) := by decide +kernel
theorem dX5_opens_49 : decode cX5_opens 49 = .ok (.aload 5, 2) := by decide +kernel
theorem dX5_opens_51 : decode cX5_opens 51 = .ok (.iconst 4, 1) := by decide +kernel
theorem dX5_opens_52 : decode cX5_opens 52 = .ok (.iconst 1, 1) := by decide +kernel
theorem dX5_opens_53 : decode cX5_opens 53 = .ok (.iastore, 1) := by decide +kernel
theorem dX5_opens_54 : decode cX5_opens 54 = .ok (.aload 5, 2) := by decide +kernel
theorem dX5_opens_56 : decode cX5_opens 56 = .ok (.bipush 8, 2) := by decide +kernel
theorem dX5_opens_58 : decode cX5_opens 58 = .ok (.iconst 0, 1) := by decide +kernel
theorem dX5_opens_59 : decode cX5_opens 59 = .ok (.iastore, 1) := by decide +kernel
theorem dX5_opens_60 : decode cX5_opens 60 = .ok (.iinc 4 1, 3) := by decide +kernel
theorem dX5_opens_63 : decode cX5_opens 63 = .ok (.goto (-47), 3) := by decide +kernel
theorem dX5_opens_66 : decode cX5_opens 66 = .ok (.return_, 1) := by decide +kernel
theorem dX5_rests_0 : decode cX5_rests 0 = .ok (.aload_n 0, 1) := by decide +kernel
theorem dX5_rests_1 : decode cX5_rests 1 = .ok (.iload_n 1, 1) := by decide +kernel
theorem dX5_rests_2 : decode cX5_rests 2 = .ok (.putfield 29, 3) := by decide +kernel
theorem dX5_rests_5 : decode cX5_rests 5 = .ok (.aload_n 0, 1) := by decide +kernel
theorem dX5_rests_6 : decode cX5_rests 6 = .ok (.iconst (-1), 1) := by decide +kernel
theorem dX5_rests_7 : decode cX5_rests 7 = .ok (.putfield 7, 3) := by decide +kernel
theorem dX5_rests_10 : decode cX5_rests 10 = .ok (.aload_n 0, 1) := by decide +kernel
theorem dX5_rests_11 : decode cX5_rests 11 = .ok (.iload_n 2, 1) := by decide +kernel
theorem dX5_rests_12 : decode cX5_rests 12 = .ok (.putfield 13, 3) := by decide +kernel
theorem dX5_rests_15 : decode cX5_rests 15 = .ok (.return_, 1) := by decide +kernel
theorem dX5_goesBack_0 : decode cX5_goesBack 0 = .ok (.aload_n 0, 1) := by decide +kernel
theorem dX5_goesBack_1 : decode cX5_goesBack 1 = .ok (.iconst 2, 1) := by decide +kernel
theorem dX5_goesBack_2 : decode cX5_goesBack 2 = .ok (.putfield 29, 3) := by decide +kernel
theorem dX5_goesBack_5 : decode cX5_goesBack 5 = .ok (.aload_n 0, 1) := by decide +kernel
theorem dX5_goesBack_6 : decode cX5_goesBack 6 = .ok (.iconst (-1), 1) := by decide +kernel
theorem dX5_goesBack_7 : decode cX5_goesBack 7 = .ok (.putfield 7, 3) := by decide +kernel
theorem dX5_goesBack_10 : decode cX5_goesBack 10 = .ok (.aload_n 0, 1) := by decide +kernel
theorem dX5_goesBack_11 : decode cX5_goesBack 11 = .ok (.iconst (-1), 1) := by decide +kernel
theorem dX5_goesBack_12 : decode cX5_goesBack 12 = .ok (.putfield 13, 3) := by decide +kernel
theorem dX5_goesBack_15 : decode cX5_goesBack 15 = .ok (.aload_n 0, 1) := by decide +kernel
theorem dX5_goesBack_16 : decode cX5_goesBack 16 = .ok (.iconst 0, 1) := by decide +kernel
theorem dX5_goesBack_17 : decode cX5_goesBack 17 = .ok (.putfield 32, 3) := by decide +kernel
theorem dX5_goesBack_20 : decode cX5_goesBack 20 = .ok (.return_, 1) := by decide +kernel
theorem dX5_owes_0 : decode cX5_owes 0 = .ok (.iconst 0, 1) := by decide +kernel
theorem dX5_owes_1 : decode cX5_owes 1 = .ok (.istore_n 1, 1) := by decide +kernel
theorem dX5_owes_2 : decode cX5_owes 2 = .ok (.aload_n 0, 1) := by decide +kernel
theorem dX5_owes_3 : decode cX5_owes 3 = .ok (.getfield 18, 3) := by decide +kernel
theorem dX5_owes_6 : decode cX5_owes 6 = .ok (.astore_n 2, 1) := by decide +kernel
theorem dX5_owes_7 : decode cX5_owes 7 = .ok (.aload_n 2, 1) := by decide +kernel
theorem dX5_owes_8 : decode cX5_owes 8 = .ok (.arraylength, 1) := by decide +kernel
theorem dX5_owes_9 : decode cX5_owes 9 = .ok (.istore_n 3, 1) := by decide +kernel
theorem dX5_owes_10 : decode cX5_owes 10 = .ok (.iconst 0, 1) := by decide +kernel
theorem dX5_owes_11 : decode cX5_owes 11 = .ok (.istore 4, 2) := by decide +kernel
theorem dX5_owes_13 : decode cX5_owes 13 = .ok (.iload 4, 2) := by decide +kernel
theorem dX5_owes_15 : decode cX5_owes 15 = .ok (.iload_n 3, 1) := by decide +kernel
theorem dX5_owes_16 : decode cX5_owes 16 = .ok (.if_icmp .ge 46, 3) := by decide +kernel
theorem dX5_owes_19 : decode cX5_owes 19 = .ok (.aload_n 2, 1) := by decide +kernel
theorem dX5_owes_20 : decode cX5_owes 20 = .ok (.iload 4, 2) := by decide +kernel
theorem dX5_owes_22 : decode cX5_owes 22 = .ok (.aaload, 1) := by decide +kernel
theorem dX5_owes_23 : decode cX5_owes 23 = .ok (.astore 5, 2) := by decide +kernel
theorem dX5_owes_25 : decode cX5_owes 25 = .ok (.aload 5, 2) := by decide +kernel
theorem dX5_owes_27 : decode cX5_owes 27 = .ok (.iconst 4, 1) := by decide +kernel
theorem dX5_owes_28 : decode cX5_owes 28 = .ok (.iaload, 1) := by decide +kernel
theorem dX5_owes_29 : decode cX5_owes 29 = .ok (.iconst 3, 1) := by decide +kernel
theorem dX5_owes_30 : decode cX5_owes 30 = .ok (.if_icmp .ne 26, 3) := by decide +kernel
theorem dX5_owes_33 : decode cX5_owes 33 = .ok (.aload_n 0, 1) := by decide +kernel
theorem dX5_owes_34 : decode cX5_owes 34 = .ok (.getfield 29, 3) := by decide +kernel
theorem dX5_owes_37 : decode cX5_owes 37 = .ok (.iconst 2, 1) := by decide +kernel
theorem dX5_owes_38 : decode cX5_owes 38 = .ok (.if_icmp .eq 11, 3) := by decide +kernel
theorem dX5_owes_41 : decode cX5_owes 41 = .ok (.aload_n 0, 1) := by decide +kernel
theorem dX5_owes_42 : decode cX5_owes 42 = .ok (.getfield 29, 3) := by decide +kernel
theorem dX5_owes_45 : decode cX5_owes 45 = .ok (.iconst 5, 1) := by decide +kernel
theorem dX5_owes_46 : decode cX5_owes 46 = .ok (.if_icmp .ne 10, 3) := by decide +kernel
theorem dX5_owes_49 : decode cX5_owes 49 = .ok (.iload_n 1, 1) := by decide +kernel
theorem dX5_owes_50 : decode cX5_owes 50 = .ok (.aload 5, 2) := by decide +kernel
theorem dX5_owes_52 : decode cX5_owes 52 = .ok (.iconst 2, 1) := by decide +kernel
theorem dX5_owes_53 : decode cX5_owes 53 = .ok (.iaload, 1) := by decide +kernel
theorem dX5_owes_54 : decode cX5_owes 54 = .ok (.iadd, 1) := by decide +kernel
theorem dX5_owes_55 : decode cX5_owes 55 = .ok (.istore_n 1, 1) := by decide +kernel
theorem dX5_owes_56 : decode cX5_owes 56 = .ok (.iinc 4 1, 3) := by decide +kernel
theorem dX5_owes_59 : decode cX5_owes 59 = .ok (.goto (-46), 3) := by decide +kernel
theorem dX5_owes_62 : decode cX5_owes 62 = .ok (.iload_n 1, 1) := by decide +kernel
theorem dX5_owes_63 : decode cX5_owes 63 = .ok (.ireturn, 1) := by decide +kernel
theorem dX6_init_0 : decode cX6_init 0 = .ok (.aload_n 0, 1) := by decide +kernel
theorem dX6_init_1 : decode cX6_init 1 = .ok (.invokespecial 1, 3) := by decide +kernel
theorem dX6_init_4 : decode cX6_init 4 = .ok (.aload_n 0, 1) := by decide +kernel
theorem dX6_init_5 : decode cX6_init 5 = .ok (.iconst 5, 1) := by decide +kernel
theorem dX6_init_6 : decode cX6_init 6 = .ok (.putfield 7, 3) := by decide +kernel
theorem dX6_init_9 : decode cX6_init 9 = .ok (.aload_n 0, 1) := by decide +kernel
theorem dX6_init_10 : decode cX6_init 10 = .ok (.iconst 3, 1) := by decide +kernel
theorem dX6_init_11 : decode cX6_init 11 = .ok (.putfield 13, 3) := by decide +kernel
theorem dX6_init_14 : decode cX6_init 14 = .ok (.aload_n 0, 1) := by decide +kernel
theorem dX6_init_15 : decode cX6_init 15 = .ok (.iconst 0, 1) := by decide +kernel
theorem dX6_init_16 : decode cX6_init 16 = .ok (.anewarray 16, 3) := by decide +kernel
theorem dX6_init_19 : decode cX6_init 19 = .ok (.putfield 18, 3) := by decide +kernel
theorem dX6_init_22 : decode cX6_init 22 = .ok (.aload_n 0, 1) := by decide +kernel
theorem dX6_init_23 : decode cX6_init 23 = .ok (.iconst 0, 1) := by decide +kernel
theorem dX6_init_24 : decode cX6_init 24 = .ok (.anewarray 22, 3) := by decide +kernel
theorem dX6_init_27 : decode cX6_init 27 = .ok (.putfield 24, 3) := by decide +kernel
theorem dX6_init_30 : decode cX6_init 30 = .ok (.return_, 1) := by decide +kernel
set_option maxRecDepth 20000 in
theorem ggX6_copy_X6_init : GoodIn wsX6_copy wsX6_init := goodIn_r _ [19, 20, 21, 22, 5, 6, 9, 8, 16, 15, 43, 44, 45, 46, 47, 48] (by decide +kernel) (by decide +kernel)
set_option maxRecDepth 20000 in
theorem gX6_copy_X6_init : GoodIn wsX6_copy (wsX6_init) := ggX6_copy_X6_init
set_option maxRecDepth 20000 in
theorem ggX6_copy_X5_copy : GoodIn wsX6_copy wsX5_copy := goodIn_r _ [27, 28, 29, 26, 30, 31, 32, 33, 34, 35, 36, 37, 38, 11, 12, 13, 14, 39, 40, 41, 42, 21, 22, 49, 50, 51, 52, 53, 54, 55] (by decide +kernel) (by decide +kernel)
set_option maxRecDepth 20000 in
theorem gX6_copy_X5_copy : GoodIn wsX6_copy (wsV RX6 39 RX5 yX5_copy wsX5_copy) := goodIn_app (goodIn_of _ (by decide +kernel)) ggX6_copy_X5_copy
theorem dX6_copy_0 : decode cX6_copy 0 = .ok (.new 8, 3) := by decide +kernel
theorem dX6_copy_3 : decode cX6_copy 3 = .ok (.dup, 1) := by decide +kernel
theorem dX6_copy_4 : decode cX6_copy 4 = .ok (.invokespecial 28, 3) := by decide +kernel
theorem dX6_copy_7 : decode cX6_copy 7 = .ok (.astore_n 1, 1) := by decide +kernel
theorem dX6_copy_8 : decode cX6_copy 8 = .ok (.aload_n 1, 1) := by decide +kernel
theorem dX6_copy_9 : decode cX6_copy 9 = .ok (.aload_n 0, 1) := by decide +kernel
theorem dX6_copy_10 : decode cX6_copy 10 = .ok (.getfield 29, 3) := by decide +kernel
theorem dX6_copy_13 : decode cX6_copy 13 = .ok (.putfield 29, 3) := by decide +kernel
theorem dX6_copy_16 : decode cX6_copy 16 = .ok (.aload_n 1, 1) := by decide +kernel
theorem dX6_copy_17 : decode cX6_copy 17 = .ok (.aload_n 0, 1) := by decide +kernel
theorem dX6_copy_18 : decode cX6_copy 18 = .ok (.getfield 7, 3) := by decide +kernel
theorem dX6_copy_21 : decode cX6_copy 21 = .ok (.putfield 7, 3) := by decide +kernel
theorem dX6_copy_24 : decode cX6_copy 24 = .ok (.aload_n 1, 1) := by decide +kernel
theorem dX6_copy_25 : decode cX6_copy 25 = .ok (.aload_n 0, 1) := by decide +kernel
theorem dX6_copy_26 : decode cX6_copy 26 = .ok (.getfield 13, 3) := by decide +kernel
theorem dX6_copy_29 : decode cX6_copy 29 = .ok (.putfield 13, 3) := by decide +kernel
theorem dX6_copy_32 : decode cX6_copy 32 = .ok (.aload_n 1, 1) := by decide +kernel
theorem dX6_copy_33 : decode cX6_copy 33 = .ok (.aload_n 0, 1) := by decide +kernel
theorem dX6_copy_34 : decode cX6_copy 34 = .ok (.getfield 32, 3) := by decide +kernel
theorem dX6_copy_37 : decode cX6_copy 37 = .ok (.putfield 32, 3) := by decide +kernel
theorem dX6_copy_40 : decode cX6_copy 40 = .ok (.aload_n 1, 1) := by decide +kernel
theorem dX6_copy_41 : decode cX6_copy 41 = .ok (.aload_n 0, 1) := by decide +kernel
theorem dX6_copy_42 : decode cX6_copy 42 = .ok (.getfield 18, 3) := by decide +kernel
theorem dX6_copy_45 : decode cX6_copy 45 = .ok (.arraylength, 1) := by decide +kernel
theorem dX6_copy_46 : decode cX6_copy 46 = .ok (.anewarray 16, 3) := by decide +kernel
theorem dX6_copy_49 : decode cX6_copy 49 = .ok (.putfield 18, 3) := by decide +kernel
theorem dX6_copy_52 : decode cX6_copy 52 = .ok (.iconst 0, 1) := by decide +kernel
theorem dX6_copy_53 : decode cX6_copy 53 = .ok (.istore_n 2, 1) := by decide +kernel
theorem dX6_copy_54 : decode cX6_copy 54 = .ok (.iload_n 2, 1) := by decide +kernel
theorem dX6_copy_55 : decode cX6_copy 55 = .ok (.aload_n 0, 1) := by decide +kernel
theorem dX6_copy_56 : decode cX6_copy 56 = .ok (.getfield 18, 3) := by decide +kernel
theorem dX6_copy_59 : decode cX6_copy 59 = .ok (.arraylength, 1) := by decide +kernel
theorem dX6_copy_60 : decode cX6_copy 60 = .ok (.if_icmp .ge 27, 3) := by decide +kernel
theorem dX6_copy_63 : decode cX6_copy 63 = .ok (.aload_n 1, 1) := by decide +kernel
theorem dX6_copy_64 : decode cX6_copy 64 = .ok (.getfield 18, 3) := by decide +kernel
theorem dX6_copy_67 : decode cX6_copy 67 = .ok (.iload_n 2, 1) := by decide +kernel
theorem dX6_copy_68 : decode cX6_copy 68 = .ok (.aload_n 0, 1) := by decide +kernel
theorem dX6_copy_69 : decode cX6_copy 69 = .ok (.getfield 18, 3) := by decide +kernel
theorem dX6_copy_72 : decode cX6_copy 72 = .ok (.iload_n 2, 1) := by decide +kernel
theorem dX6_copy_73 : decode cX6_copy 73 = .ok (.aaload, 1) := by decide +kernel
theorem dX6_copy_74 : decode cX6_copy 74 = .ok (.invokevirtual 35, 3) := by decide +kernel
theorem dX6_copy_77 : decode cX6_copy 77 = .ok (.checkcast 16, 3) := by decide +kernel
theorem dX6_copy_80 : decode cX6_copy 80 = .ok (.aastore, 1) := by decide +kernel
theorem dX6_copy_81 : decode cX6_copy 81 = .ok (.iinc 2 1, 3) := by decide +kernel
theorem dX6_copy_84 : decode cX6_copy 84 = .ok (.goto (-30), 3) := by decide +kernel
theorem dX6_copy_87 : decode cX6_copy 87 = .ok (.aload_n 1, 1) := by decide +kernel
theorem dX6_copy_88 : decode cX6_copy 88 = .ok (.aload_n 0, 1) := by decide +kernel
theorem dX6_copy_89 : decode cX6_copy 89 = .ok (.getfield 24, 3) := by decide +kernel
theorem dX6_copy_92 : decode cX6_copy 92 = .ok (.arraylength, 1) := by decide +kernel
theorem dX6_copy_93 : decode cX6_copy 93 = .ok (.anewarray 22, 3) := by decide +kernel
theorem dX6_copy_96 : decode cX6_copy 96 = .ok (.putfield 24, 3) := by decide +kernel
theorem dX6_copy_99 : decode cX6_copy 99 = .ok (.iconst 0, 1) := by decide +kernel
theorem dX6_copy_100 : decode cX6_copy 100 = .ok (.istore_n 2, 1) := by decide +kernel
theorem dX6_copy_101 : decode cX6_copy 101 = .ok (.iload_n 2, 1) := by decide +kernel
theorem dX6_copy_102 : decode cX6_copy 102 = .ok (.aload_n 0, 1) := by decide +kernel
theorem dX6_copy_103 : decode cX6_copy 103 = .ok (.getfield 24, 3) := by decide +kernel
theorem dX6_copy_106 : decode cX6_copy 106 = .ok (.arraylength, 1) := by decide +kernel
theorem dX6_copy_107 : decode cX6_copy 107 = .ok (.if_icmp .ge 24, 3) := by decide +kernel
theorem dX6_copy_110 : decode cX6_copy 110 = .ok (.aload_n 1, 1) := by decide +kernel
theorem dX6_copy_111 : decode cX6_copy 111 = .ok (.getfield 24, 3) := by decide +kernel
theorem dX6_copy_114 : decode cX6_copy 114 = .ok (.iload_n 2, 1) := by decide +kernel
theorem dX6_copy_115 : decode cX6_copy 115 = .ok (.aload_n 0, 1) := by decide +kernel
theorem dX6_copy_116 : decode cX6_copy 116 = .ok (.getfield 24, 3) := by decide +kernel
theorem dX6_copy_119 : decode cX6_copy 119 = .ok (.iload_n 2, 1) := by decide +kernel
theorem dX6_copy_120 : decode cX6_copy 120 = .ok (.aaload, 1) := by decide +kernel
theorem dX6_copy_121 : decode cX6_copy 121 = .ok (.invokevirtual 39, 3) := by decide +kernel
theorem dX6_copy_124 : decode cX6_copy 124 = .ok (.aastore, 1) := by decide +kernel
theorem dX6_copy_125 : decode cX6_copy 125 = .ok (.iinc 2 1, 3) := by decide +kernel
theorem dX6_copy_128 : decode cX6_copy 128 = .ok (.goto (-27), 3) := by decide +kernel
theorem dX6_copy_131 : decode cX6_copy 131 = .ok (.aload_n 1, 1) := by decide +kernel
theorem dX6_copy_132 : decode cX6_copy 132 = .ok (.areturn, 1) := by decide +kernel
set_option maxRecDepth 20000 in
theorem ggX6_holders_X5_holds : GoodIn wsX6_holders wsX5_holds := goodIn_r _ [6, 7, 8, 9, 10, 5, 11, 12, 19, 20, 21, 22, 23, 24, 25] (by decide +kernel) (by decide +kernel)
set_option maxRecDepth 20000 in
theorem gX6_holders_X5_holds : GoodIn wsX6_holders (wsV RX6 43 RX5 yX5_holds wsX5_holds) := goodIn_app (goodIn_of _ (by decide +kernel)) ggX6_holders_X5_holds
theorem dX6_holders_0 : decode cX6_holders 0 = .ok (.iconst 0, 1) := by decide +kernel
theorem dX6_holders_1 : decode cX6_holders 1 = .ok (.istore_n 2, 1) := by decide +kernel
theorem dX6_holders_2 : decode cX6_holders 2 = .ok (.aload_n 0, 1) := by decide +kernel
theorem dX6_holders_3 : decode cX6_holders 3 = .ok (.getfield 24, 3) := by decide +kernel
theorem dX6_holders_6 : decode cX6_holders 6 = .ok (.astore_n 3, 1) := by decide +kernel
theorem dX6_holders_7 : decode cX6_holders 7 = .ok (.aload_n 3, 1) := by decide +kernel
theorem dX6_holders_8 : decode cX6_holders 8 = .ok (.arraylength, 1) := by decide +kernel
theorem dX6_holders_9 : decode cX6_holders 9 = .ok (.istore 4, 2) := by decide +kernel
theorem dX6_holders_11 : decode cX6_holders 11 = .ok (.iconst 0, 1) := by decide +kernel
theorem dX6_holders_12 : decode cX6_holders 12 = .ok (.istore 5, 2) := by decide +kernel
theorem dX6_holders_14 : decode cX6_holders 14 = .ok (.iload 5, 2) := by decide +kernel
theorem dX6_holders_16 : decode cX6_holders 16 = .ok (.iload 4, 2) := by decide +kernel
theorem dX6_holders_18 : decode cX6_holders 18 = .ok (.if_icmp .ge 27, 3) := by decide +kernel
theorem dX6_holders_21 : decode cX6_holders 21 = .ok (.aload_n 3, 1) := by decide +kernel
theorem dX6_holders_22 : decode cX6_holders 22 = .ok (.iload 5, 2) := by decide +kernel
theorem dX6_holders_24 : decode cX6_holders 24 = .ok (.aaload, 1) := by decide +kernel
theorem dX6_holders_25 : decode cX6_holders 25 = .ok (.astore 6, 2) := by decide +kernel
theorem dX6_holders_27 : decode cX6_holders 27 = .ok (.aload 6, 2) := by decide +kernel
theorem dX6_holders_29 : decode cX6_holders 29 = .ok (.iload_n 1, 1) := by decide +kernel
theorem dX6_holders_30 : decode cX6_holders 30 = .ok (.invokevirtual 43, 3) := by decide +kernel
theorem dX6_holders_33 : decode cX6_holders 33 = .ok (.ifCond .eq 6, 3) := by decide +kernel
theorem dX6_holders_36 : decode cX6_holders 36 = .ok (.iinc 2 1, 3) := by decide +kernel
theorem dX6_holders_39 : decode cX6_holders 39 = .ok (.iinc 5 1, 3) := by decide +kernel
theorem dX6_holders_42 : decode cX6_holders 42 = .ok (.goto (-28), 3) := by decide +kernel
theorem dX6_holders_45 : decode cX6_holders 45 = .ok (.iload_n 2, 1) := by decide +kernel
theorem dX6_holders_46 : decode cX6_holders 46 = .ok (.ireturn, 1) := by decide +kernel
set_option maxRecDepth 20000 in
theorem ggX6_begins_X5_holds : GoodIn wsX6_begins wsX5_holds := goodIn_r _ [8, 9, 10, 11, 12, 7, 13, 14, 27, 28, 29, 30, 31, 32, 33] (by decide +kernel) (by decide +kernel)
set_option maxRecDepth 20000 in
theorem gX6_begins_X5_holds : GoodIn wsX6_begins (wsV RX6 43 RX5 yX5_holds wsX5_holds) := goodIn_app (goodIn_of _ (by decide +kernel)) ggX6_begins_X5_holds
set_option maxRecDepth 20000 in
theorem ggX6_begins_X6_holders : GoodIn wsX6_begins wsX6_holders := goodIn_r _ [19, 20, 4, 5, 6, 7, 8, 9, 10, 11, 12, 13, 14, 21, 22, 23, 24, 25, 26, 27, 28, 29, 30, 31, 32, 33] (by decide +kernel) (by decide +kernel)
set_option maxRecDepth 20000 in
theorem gX6_begins_X6_holders : GoodIn wsX6_begins (wsV RX6 47 RX6 yX6_holders wsX6_holders) := goodIn_app (goodIn_of _ (by decide +kernel)) ggX6_begins_X6_holders
theorem dX6_begins_0 : decode cX6_begins 0 = .ok (.aload_n 0, 1) := by decide +kernel
theorem dX6_begins_1 : decode cX6_begins 1 = .ok (.getfield 18, 3) := by decide +kernel
theorem dX6_begins_4 : decode cX6_begins 4 = .ok (.aload_n 2, 1) := by decide +kernel
theorem dX6_begins_5 : decode cX6_begins 5 = .ok (.iconst 1, 1) := by decide +kernel
theorem dX6_begins_6 : decode cX6_begins 6 = .ok (.iaload, 1) := by decide +kernel
theorem dX6_begins_7 : decode cX6_begins 7 = .ok (.aaload, 1) := by decide +kernel
theorem dX6_begins_8 : decode cX6_begins 8 = .ok (.astore_n 3, 1) := by decide +kernel
theorem dX6_begins_9 : decode cX6_begins 9 = .ok (.aload_n 1, 1) := by decide +kernel
theorem dX6_begins_10 : decode cX6_begins 10 = .ok (.aload_n 2, 1) := by decide +kernel
theorem dX6_begins_11 : decode cX6_begins 11 = .ok (.iconst 1, 1) := by decide +kernel
theorem dX6_begins_12 : decode cX6_begins 12 = .ok (.iaload, 1) := by decide +kernel
theorem dX6_begins_13 : decode cX6_begins 13 = .ok (.invokevirtual 43, 3) := by decide +kernel
theorem dX6_begins_16 : decode cX6_begins 16 = .ok (.ifCond .ne 40, 3) := by decide +kernel
theorem dX6_begins_19 : decode cX6_begins 19 = .ok (.aload_n 0, 1) := by decide +kernel
theorem dX6_begins_20 : decode cX6_begins 20 = .ok (.aload_n 2, 1) := by decide +kernel
theorem dX6_begins_21 : decode cX6_begins 21 = .ok (.iconst 1, 1) := by decide +kernel
theorem dX6_begins_22 : decode cX6_begins 22 = .ok (.iaload, 1) := by decide +kernel
theorem dX6_begins_23 : decode cX6_begins 23 = .ok (.invokevirtual 47, 3) := by decide +kernel
theorem dX6_begins_26 : decode cX6_begins 26 = .ok (.aload_n 3, 1) := by decide +kernel
theorem dX6_begins_27 : decode cX6_begins 27 = .ok (.iconst 1, 1) := by decide +kernel
theorem dX6_begins_28 : decode cX6_begins 28 = .ok (.iaload, 1) := by decide +kernel
theorem dX6_begins_29 : decode cX6_begins 29 = .ok (.if_icmp .lt 27, 3) := by decide +kernel
theorem dX6_begins_32 : decode cX6_begins 32 = .ok (.aload_n 2, 1) := by decide +kernel
theorem dX6_begins_33 : decode cX6_begins 33 = .ok (.bipush 8, 2) := by decide +kernel
theorem dX6_begins_35 : decode cX6_begins 35 = .ok (.iaload, 1) := by decide +kernel
theorem dX6_begins_36 : decode cX6_begins 36 = .ok (.aload_n 0, 1) := by decide +kernel
theorem dX6_begins_37 : decode cX6_begins 37 = .ok (.getfield 7, 3) := by decide +kernel
theorem dX6_begins_40 : decode cX6_begins 40 = .ok (.if_icmp .lt 7, 3) := by decide +kernel
theorem dX6_begins_43 : decode cX6_begins 43 = .ok (.aload_n 2, 1) := by decide +kernel
theorem dX6_begins_44 : decode cX6_begins 44 = .ok (.iconst 4, 1) := by decide +kernel
theorem dX6_begins_45 : decode cX6_begins 45 = .ok (.iconst 4, 1) := by decide +kernel
theorem dX6_begins_46 : decode cX6_begins 46 = .ok (.iastore, 1) := by decide +kernel
theorem dX6_begins_47 : decode cX6_begins 47 = .ok (.aload_n 2, 1) := by decide +kernel
theorem dX6_begins_48 : decode cX6_begins 48 = .ok (.bipush 8, 2) := by decide +kernel
theorem dX6_begins_50 : decode cX6_begins 50 = .ok (.dup2, 1) := by decide +kernel
theorem dX6_begins_51 : decode cX6_begins 51 = .ok (.iaload, 1) := by decide +kernel
theorem dX6_begins_52 : decode cX6_begins 52 = .ok (.iconst 1, 1) := by decide +kernel
theorem dX6_begins_53 : decode cX6_begins 53 = .ok (.iadd, 1) := by decide +kernel
theorem dX6_begins_54 : decode cX6_begins 54 = .ok (.iastore, 1) := by decide +kernel
theorem dX6_begins_55 : decode cX6_begins 55 = .ok (.return_, 1) := by decide +kernel
theorem dX6_begins_56 : decode cX6_begins 56 = .ok (.aload_n 3, 1) := by decide +kernel
theorem dX6_begins_57 : decode cX6_begins 57 = .ok (.iconst 0, 1) := by decide +kernel
theorem dX6_begins_58 : decode cX6_begins 58 = .ok (.iaload, 1) := by decide +kernel
theorem dX6_begins_59 : decode cX6_begins 59 = .ok (.aload_n 2, 1) := by decide +kernel
theorem dX6_begins_60 : decode cX6_begins 60 = .ok (.iconst 2, 1) := by decide +kernel
theorem dX6_begins_61 : decode cX6_begins 61 = .ok (.iaload, 1) := by decide +kernel
theorem dX6_begins_62 : decode cX6_begins 62 = .ok (.if_icmp .lt 25, 3) := by decide +kernel
theorem dX6_begins_65 : decode cX6_begins 65 = .ok (.aload_n 3, 1) := by decide +kernel
theorem dX6_begins_66 : decode cX6_begins 66 = .ok (.iconst 0, 1) := by decide +kernel
theorem dX6_begins_67 : decode cX6_begins 67 = .ok (.dup2, 1) := by decide +kernel
theorem dX6_begins_68 : decode cX6_begins 68 = .ok (.iaload, 1) := by decide +kernel
theorem dX6_begins_69 : decode cX6_begins 69 = .ok (.aload_n 2, 1) := by decide +kernel
theorem dX6_begins_70 : decode cX6_begins 70 = .ok (.iconst 2, 1) := by decide +kernel
theorem dX6_begins_71 : decode cX6_begins 71 = .ok (.iaload, 1) := by decide +kernel
theorem dX6_begins_72 : decode cX6_begins 72 = .ok (.isub, 1) := by decide +kernel
theorem dX6_begins_73 : decode cX6_begins 73 = .ok (.iastore, 1) := by decide +kernel
theorem dX6_begins_74 : decode cX6_begins 74 = .ok (.aload_n 2, 1) := by decide +kernel
theorem dX6_begins_75 : decode cX6_begins 75 = .ok (.iconst 4, 1) := by decide +kernel
theorem dX6_begins_76 : decode cX6_begins 76 = .ok (.iconst 2, 1) := by decide +kernel
theorem dX6_begins_77 : decode cX6_begins 77 = .ok (.iastore, 1) := by decide +kernel
theorem dX6_begins_78 : decode cX6_begins 78 = .ok (.aload_n 2, 1) := by decide +kernel
theorem dX6_begins_79 : decode cX6_begins 79 = .ok (.bipush 8, 2) := by decide +kernel
theorem dX6_begins_81 : decode cX6_begins 81 = .ok (.aload_n 0, 1) := by decide +kernel
theorem dX6_begins_82 : decode cX6_begins 82 = .ok (.getfield 29, 3) := by decide +kernel
theorem dX6_begins_85 : decode cX6_begins 85 = .ok (.iastore, 1) := by decide +kernel
theorem dX6_begins_86 : decode cX6_begins 86 = .ok (.return_, 1) := by decide +kernel
theorem dX6_begins_87 : decode cX6_begins 87 = .ok (.aload_n 2, 1) := by decide +kernel
theorem dX6_begins_88 : decode cX6_begins 88 = .ok (.bipush 6, 2) := by decide +kernel
theorem dX6_begins_90 : decode cX6_begins 90 = .ok (.iaload, 1) := by decide +kernel
theorem dX6_begins_91 : decode cX6_begins 91 = .ok (.ifCond .ne 10, 3) := by decide +kernel
theorem dX6_begins_94 : decode cX6_begins 94 = .ok (.aload_n 2, 1) := by decide +kernel
theorem dX6_begins_95 : decode cX6_begins 95 = .ok (.iconst 4, 1) := by decide +kernel
theorem dX6_begins_96 : decode cX6_begins 96 = .ok (.iconst 4, 1) := by decide +kernel
theorem dX6_begins_97 : decode cX6_begins 97 = .ok (.iastore, 1) := by decide +kernel
theorem dX6_begins_98 : decode cX6_begins 98 = .ok (.goto 11, 3) := by decide +kernel
theorem dX6_begins_101 : decode cX6_begins 101 = .ok (.aload_n 2, 1) := by decide +kernel
theorem dX6_begins_102 : decode cX6_begins 102 = .ok (.bipush 6, 2) := by decide +kernel
theorem dX6_begins_104 : decode cX6_begins 104 = .ok (.dup2, 1) := by decide +kernel
theorem dX6_begins_105 : decode cX6_begins 105 = .ok (.iaload, 1) := by decide +kernel
theorem dX6_begins_106 : decode cX6_begins 106 = .ok (.iconst 1, 1) := by decide +kernel
theorem dX6_begins_107 : decode cX6_begins 107 = .ok (.isub, 1) := by decide +kernel
theorem dX6_begins_108 : decode cX6_begins 108 = .ok (.iastore, 1) := by decide +kernel
theorem dX6_begins_109 : decode cX6_begins 109 = .ok (.return_, 1) := by decide +kernel
set_option maxRecDepth 20000 in
theorem ggX6_goes_X6_begins : GoodIn wsX6_goes wsX6_begins := goodIn_r _ [9, 10, 11, 3, 12, 13, 14, 15, 16, 17, 18, 19, 20, 21, 22, 23, 24, 25, 8, 26, 27, 63, 64, 65, 66, 67, 68, 56, 57, 58, 59, 60, 61, 62] (by decide +kernel) (by decide +kernel)
set_option maxRecDepth 20000 in
theorem gX6_goes_X6_begins : GoodIn wsX6_goes (wsV RX6 57 RX6 yX6_begins wsX6_begins) := goodIn_app (goodIn_of _ (by decide +kernel)) ggX6_goes_X6_begins
set_option maxRecDepth 20000 in
theorem ggX6_goes_X5_count : GoodIn wsX6_goes wsX5_count := goodIn_r _ [31, 17, 56, 57, 58, 59, 60, 61, 62] (by decide +kernel) (by decide +kernel)
set_option maxRecDepth 20000 in
theorem gX6_goes_X5_count : GoodIn wsX6_goes (wsV RX6 61 RX5 yX5_count wsX5_count) := goodIn_app (goodIn_of _ (by decide +kernel)) ggX6_goes_X5_count
set_option maxRecDepth 20000 in
theorem ggX6_goes_X5_isFinished : GoodIn wsX6_goes wsX5_isFinished := goodIn_r _ [35, 36, 29, 30, 15, 31, 17, 37, 38, 39, 40, 56, 57, 58, 59, 60, 61, 62] (by decide +kernel) (by decide +kernel)
set_option maxRecDepth 20000 in
theorem gX6_goes_X5_isFinished : GoodIn wsX6_goes (wsV RX6 65 RX5 yX5_isFinished wsX5_isFinished) := goodIn_app (goodIn_of _ (by decide +kernel)) ggX6_goes_X5_isFinished
set_option maxRecDepth 20000 in
theorem ggX6_goes_X5_opens : GoodIn wsX6_goes wsX5_opens := goodIn_r _ [44, 45, 17, 56, 57, 58, 59, 60, 61, 62] (by decide +kernel) (by decide +kernel)
set_option maxRecDepth 20000 in
theorem gX6_goes_X5_opens : GoodIn wsX6_goes (wsV RX6 71 RX5 yX5_opens wsX5_opens) := goodIn_app (goodIn_of _ (by decide +kernel)) ggX6_goes_X5_opens
set_option maxRecDepth 20000 in
theorem ggX6_goes_X5_rests : GoodIn wsX6_goes wsX5_rests := goodIn_r _ [49, 22, 45, 50, 56, 57, 58, 59, 60, 61, 62] (by decide +kernel) (by decide +kernel)
set_option maxRecDepth 20000 in
theorem gX6_goes_X5_rests : GoodIn wsX6_goes (wsV RX6 75 RX5 yX5_rests wsX5_rests) := goodIn_app (goodIn_of _ (by decide +kernel)) ggX6_goes_X5_rests
set_option maxRecDepth 20000 in
theorem ggX6_goes_X5_goesBack : GoodIn wsX6_goes wsX5_goesBack := goodIn_r _ [54, 22, 45, 50, 55, 56, 57, 58, 59, 60, 61, 62] (by decide +kernel) (by decide +kernel)
set_option maxRecDepth 20000 in
theorem gX6_goes_X5_goesBack : GoodIn wsX6_goes (wsV RX6 79 RX5 yX5_goesBack wsX5_goesBack) := goodIn_app (goodIn_of _ (by decide +kernel)) ggX6_goes_X5_goesBack
theorem dX6_goes_0 : decode cX6_goes 0 = .ok (.aload_n 1, 1) := by decide +kernel
theorem dX6_goes_1 : decode cX6_goes 1 = .ok (.getfield 51, 3) := by decide +kernel
theorem dX6_goes_4 : decode cX6_goes 4 = .ok (.istore_n 2, 1) := by decide +kernel
theorem dX6_goes_5 : decode cX6_goes 5 = .ok (.aload_n 1, 1) := by decide +kernel
theorem dX6_goes_6 : decode cX6_goes 6 = .ok (.getfield 54, 3) := by decide +kernel
theorem dX6_goes_9 : decode cX6_goes 9 = .ok (.astore_n 3, 1) := by decide +kernel
theorem dX6_goes_10 : decode cX6_goes 10 = .ok (.aload_n 3, 1) := by decide +kernel
theorem dX6_goes_11 : decode cX6_goes 11 = .ok (.arraylength, 1) := by decide +kernel
theorem dX6_goes_12 : decode cX6_goes 12 = .ok (.istore 4, 2) := by decide +kernel
theorem dX6_goes_14 : decode cX6_goes 14 = .ok (.iconst 0, 1) := by decide +kernel
theorem dX6_goes_15 : decode cX6_goes 15 = .ok (.istore 5, 2) := by decide +kernel
theorem dX6_goes_17 : decode cX6_goes 17 = .ok (.iload 5, 2) := by decide +kernel
theorem dX6_goes_19 : decode cX6_goes 19 = .ok (.iload 4, 2) := by decide +kernel
theorem dX6_goes_21 : decode cX6_goes 21 = .ok (.if_icmp .ge 74, 3) := by decide +kernel
theorem dX6_goes_24 : decode cX6_goes 24 = .ok (.aload_n 3, 1) := by decide +kernel
theorem dX6_goes_25 : decode cX6_goes 25 = .ok (.iload 5, 2) := by decide +kernel
theorem dX6_goes_27 : decode cX6_goes 27 = .ok (.aaload, 1) := by decide +kernel
theorem dX6_goes_28 : decode cX6_goes 28 = .ok (.astore 6, 2) := by decide +kernel
theorem dX6_goes_30 : decode cX6_goes 30 = .ok (.aload 6, 2) := by decide +kernel
theorem dX6_goes_32 : decode cX6_goes 32 = .ok (.iconst 0, 1) := by decide +kernel
theorem dX6_goes_33 : decode cX6_goes 33 = .ok (.iaload, 1) := by decide +kernel
theorem dX6_goes_34 : decode cX6_goes 34 = .ok (.iload_n 2, 1) := by decide +kernel
theorem dX6_goes_35 : decode cX6_goes 35 = .ok (.if_icmp .eq 6, 3) := by decide +kernel
theorem dX6_goes_38 : decode cX6_goes 38 = .ok (.goto 51, 3) := by decide +kernel
theorem dX6_goes_41 : decode cX6_goes 41 = .ok (.aload 6, 2) := by decide +kernel
theorem dX6_goes_43 : decode cX6_goes 43 = .ok (.iconst 4, 1) := by decide +kernel
theorem dX6_goes_44 : decode cX6_goes 44 = .ok (.iaload, 1) := by decide +kernel
theorem dX6_goes_45 : decode cX6_goes 45 = .ok (.iconst 2, 1) := by decide +kernel
theorem dX6_goes_46 : decode cX6_goes 46 = .ok (.if_icmp .ne 28, 3) := by decide +kernel
theorem dX6_goes_49 : decode cX6_goes 49 = .ok (.aload_n 0, 1) := by decide +kernel
theorem dX6_goes_50 : decode cX6_goes 50 = .ok (.getfield 29, 3) := by decide +kernel
theorem dX6_goes_53 : decode cX6_goes 53 = .ok (.aload 6, 2) := by decide +kernel
theorem dX6_goes_55 : decode cX6_goes 55 = .ok (.bipush 8, 2) := by decide +kernel
theorem dX6_goes_57 : decode cX6_goes 57 = .ok (.iaload, 1) := by decide +kernel
theorem dX6_goes_58 : decode cX6_goes 58 = .ok (.isub, 1) := by decide +kernel
theorem dX6_goes_59 : decode cX6_goes 59 = .ok (.aload 6, 2) := by decide +kernel
theorem dX6_goes_61 : decode cX6_goes 61 = .ok (.iconst 3, 1) := by decide +kernel
theorem dX6_goes_62 : decode cX6_goes 62 = .ok (.iaload, 1) := by decide +kernel
theorem dX6_goes_63 : decode cX6_goes 63 = .ok (.if_icmp .lt 11, 3) := by decide +kernel
theorem dX6_goes_66 : decode cX6_goes 66 = .ok (.aload 6, 2) := by decide +kernel
theorem dX6_goes_68 : decode cX6_goes 68 = .ok (.iconst 4, 1) := by decide +kernel
theorem dX6_goes_69 : decode cX6_goes 69 = .ok (.iconst 3, 1) := by decide +kernel
theorem dX6_goes_70 : decode cX6_goes 70 = .ok (.iastore, 1) := by decide +kernel
theorem dX6_goes_71 : decode cX6_goes 71 = .ok (.goto 18, 3) := by decide +kernel
theorem dX6_goes_74 : decode cX6_goes 74 = .ok (.aload 6, 2) := by decide +kernel
theorem dX6_goes_76 : decode cX6_goes 76 = .ok (.iconst 4, 1) := by decide +kernel
theorem dX6_goes_77 : decode cX6_goes 77 = .ok (.iaload, 1) := by decide +kernel
theorem dX6_goes_78 : decode cX6_goes 78 = .ok (.iconst 1, 1) := by decide +kernel
theorem dX6_goes_79 : decode cX6_goes 79 = .ok (.if_icmp .ne 10, 3) := by decide +kernel
theorem dX6_goes_82 : decode cX6_goes 82 = .ok (.aload_n 0, 1) := by decide +kernel
theorem dX6_goes_83 : decode cX6_goes 83 = .ok (.aload_n 1, 1) := by decide +kernel
theorem dX6_goes_84 : decode cX6_goes 84 = .ok (.aload 6, 2) := by decide +kernel
theorem dX6_goes_86 : decode cX6_goes 86 = .ok (.invokevirtual 57, 3) := by decide +kernel
theorem dX6_goes_89 : decode cX6_goes 89 = .ok (.iinc 5 1, 3) := by decide +kernel
theorem dX6_goes_92 : decode cX6_goes 92 = .ok (.goto (-75), 3) := by decide +kernel
theorem dX6_goes_95 : decode cX6_goes 95 = .ok (.aload_n 1, 1) := by decide +kernel
theorem dX6_goes_96 : decode cX6_goes 96 = .ok (.iload_n 2, 1) := by decide +kernel
theorem dX6_goes_97 : decode cX6_goes 97 = .ok (.iconst 4, 1) := by decide +kernel
theorem dX6_goes_98 : decode cX6_goes 98 = .ok (.invokevirtual 61, 3) := by decide +kernel
theorem dX6_goes_101 : decode cX6_goes 101 = .ok (.ifCond .le 7, 3) := by decide +kernel
theorem dX6_goes_104 : decode cX6_goes 104 = .ok (.iconst 1, 1) := by decide +kernel
theorem dX6_goes_105 : decode cX6_goes 105 = .ok (.goto 4, 3) := by decide +kernel
theorem dX6_goes_108 : decode cX6_goes 108 = .ok (.iconst 0, 1) := by decide +kernel
theorem dX6_goes_109 : decode cX6_goes 109 = .ok (.istore_n 3, 1) := by decide +kernel
theorem dX6_goes_110 : decode cX6_goes 110 = .ok (.aload_n 1, 1) := by decide +kernel
theorem dX6_goes_111 : decode cX6_goes 111 = .ok (.getfield 54, 3) := by decide +kernel
theorem dX6_goes_114 : decode cX6_goes 114 = .ok (.astore 4, 2) := by decide +kernel
theorem dX6_goes_116 : decode cX6_goes 116 = .ok (.aload 4, 2) := by decide +kernel
theorem dX6_goes_118 : decode cX6_goes 118 = .ok (.arraylength, 1) := by decide +kernel
theorem dX6_goes_119 : decode cX6_goes 119 = .ok (.istore 5, 2) := by decide +kernel
theorem dX6_goes_121 : decode cX6_goes 121 = .ok (.iconst 0, 1) := by decide +kernel
theorem dX6_goes_122 : decode cX6_goes 122 = .ok (.istore 6, 2) := by decide +kernel
theorem dX6_goes_124 : decode cX6_goes 124 = .ok (.iload 6, 2) := by decide +kernel
theorem dX6_goes_126 : decode cX6_goes 126 = .ok (.iload 5, 2) := by decide +kernel
theorem dX6_goes_128 : decode cX6_goes 128 = .ok (.if_icmp .ge 41, 3) := by decide +kernel
theorem dX6_goes_131 : decode cX6_goes 131 = .ok (.aload 4, 2) := by decide +kernel
theorem dX6_goes_133 : decode cX6_goes 133 = .ok (.iload 6, 2) := by decide +kernel
theorem dX6_goes_135 : decode cX6_goes 135 = .ok (.aaload, 1) := by decide +kernel
theorem dX6_goes_136 : decode cX6_goes 136 = .ok (.astore 7, 2) := by decide +kernel
theorem dX6_goes_138 : decode cX6_goes 138 = .ok (.iload_n 3, 1) := by decide +kernel
theorem dX6_goes_139 : decode cX6_goes 139 = .ok (.ifCond .eq 24, 3) := by decide +kernel
theorem dX6_goes_142 : decode cX6_goes 142 = .ok (.aload 7, 2) := by decide +kernel
theorem dX6_goes_144 : decode cX6_goes 144 = .ok (.iconst 0, 1) := by decide +kernel
theorem dX6_goes_145 : decode cX6_goes 145 = .ok (.iaload, 1) := by decide +kernel
theorem dX6_goes_146 : decode cX6_goes 146 = .ok (.iload_n 2, 1) := by decide +kernel
theorem dX6_goes_147 : decode cX6_goes 147 = .ok (.if_icmp .ne 16, 3) := by decide +kernel
theorem dX6_goes_150 : decode cX6_goes 150 = .ok (.aload 7, 2) := by decide +kernel
theorem dX6_goes_152 : decode cX6_goes 152 = .ok (.iconst 4, 1) := by decide +kernel
theorem dX6_goes_153 : decode cX6_goes 153 = .ok (.iaload, 1) := by decide +kernel
theorem dX6_goes_154 : decode cX6_goes 154 = .ok (.iconst 1, 1) := by decide +kernel
theorem dX6_goes_155 : decode cX6_goes 155 = .ok (.if_icmp .ne 8, 3) := by decide +kernel
theorem dX6_goes_158 : decode cX6_goes 158 = .ok (.aload 7, 2) := by decide +kernel
theorem dX6_goes_160 : decode cX6_goes 160 = .ok (.iconst 4, 1) := by decide +kernel
theorem dX6_goes_161 : decode cX6_goes 161 = .ok (.iconst 0, 1) := by decide +kernel
theorem dX6_goes_162 : decode cX6_goes 162 = .ok (.iastore, 1) := by decide +kernel
theorem dX6_goes_163 : decode cX6_goes 163 = .ok (.iinc 6 1, 3) := by decide +kernel
theorem dX6_goes_166 : decode cX6_goes 166 = .ok (.goto (-42), 3) := by decide +kernel
theorem dX6_goes_169 : decode cX6_goes 169 = .ok (.aload_n 1, 1) := by decide +kernel
theorem dX6_goes_170 : decode cX6_goes 170 = .ok (.iload_n 2, 1) := by decide +kernel
theorem dX6_goes_171 : decode cX6_goes 171 = .ok (.invokevirtual 65, 3) := by decide +kernel
theorem dX6_goes_174 : decode cX6_goes 174 = .ok (.ifCond .eq 35, 3) := by decide +kernel
theorem dX6_goes_177 : decode cX6_goes 177 = .ok (.iload_n 2, 1) := by decide +kernel
theorem dX6_goes_178 : decode cX6_goes 178 = .ok (.iconst 1, 1) := by decide +kernel
theorem dX6_goes_179 : decode cX6_goes 179 = .ok (.iadd, 1) := by decide +kernel
theorem dX6_goes_180 : decode cX6_goes 180 = .ok (.aload_n 1, 1) := by decide +kernel
theorem dX6_goes_181 : decode cX6_goes 181 = .ok (.getfield 68, 3) := by decide +kernel
theorem dX6_goes_184 : decode cX6_goes 184 = .ok (.if_icmp .ge 13, 3) := by decide +kernel
theorem dX6_goes_187 : decode cX6_goes 187 = .ok (.aload_n 1, 1) := by decide +kernel
theorem dX6_goes_188 : decode cX6_goes 188 = .ok (.iload_n 2, 1) := by decide +kernel
theorem dX6_goes_189 : decode cX6_goes 189 = .ok (.iconst 1, 1) := by decide +kernel
theorem dX6_goes_190 : decode cX6_goes 190 = .ok (.iadd, 1) := by decide +kernel
theorem dX6_goes_191 : decode cX6_goes 191 = .ok (.invokevirtual 71, 3) := by decide +kernel
theorem dX6_goes_194 : decode cX6_goes 194 = .ok (.goto 32, 3) := by decide +kernel
theorem dX6_goes_197 : decode cX6_goes 197 = .ok (.aload_n 1, 1) := by decide +kernel
theorem dX6_goes_198 : decode cX6_goes 198 = .ok (.iconst 3, 1) := by decide +kernel
theorem dX6_goes_199 : decode cX6_goes 199 = .ok (.aload_n 0, 1) := by decide +kernel
theorem dX6_goes_200 : decode cX6_goes 200 = .ok (.getfield 29, 3) := by decide +kernel
theorem dX6_goes_203 : decode cX6_goes 203 = .ok (.invokevirtual 75, 3) := by decide +kernel
theorem dX6_goes_206 : decode cX6_goes 206 = .ok (.goto 20, 3) := by decide +kernel
theorem dX6_goes_209 : decode cX6_goes 209 = .ok (.iload_n 3, 1) := by decide +kernel
theorem dX6_goes_210 : decode cX6_goes 210 = .ok (.ifCond .eq 16, 3) := by decide +kernel
theorem dX6_goes_213 : decode cX6_goes 213 = .ok (.aload_n 1, 1) := by decide +kernel
theorem dX6_goes_214 : decode cX6_goes 214 = .ok (.iload_n 2, 1) := by decide +kernel
theorem dX6_goes_215 : decode cX6_goes 215 = .ok (.iconst 2, 1) := by decide +kernel
theorem dX6_goes_216 : decode cX6_goes 216 = .ok (.invokevirtual 61, 3) := by decide +kernel
theorem dX6_goes_219 : decode cX6_goes 219 = .ok (.ifCond .ne 7, 3) := by decide +kernel
theorem dX6_goes_222 : decode cX6_goes 222 = .ok (.aload_n 1, 1) := by decide +kernel
theorem dX6_goes_223 : decode cX6_goes 223 = .ok (.invokevirtual 79, 3) := by decide +kernel
theorem dX6_goes_226 : decode cX6_goes 226 = .ok (.return_, 1) := by decide +kernel
set_option maxRecDepth 20000 in
theorem ggX6_back_X5_last : GoodIn wsX6_back wsX5_last := goodIn_r _ [10, 11, 31, 32, 33, 34, 35, 36, 37] (by decide +kernel) (by decide +kernel)
set_option maxRecDepth 20000 in
theorem gX6_back_X5_last : GoodIn wsX6_back (wsV RX6 82 RX5 yX5_last wsX5_last) := goodIn_app (goodIn_of _ (by decide +kernel)) ggX6_back_X5_last
set_option maxRecDepth 20000 in
theorem ggX6_back_X5_rests : GoodIn wsX6_back wsX5_rests := goodIn_r _ [15, 16, 17, 18, 31, 32, 33, 34, 35, 36, 37] (by decide +kernel) (by decide +kernel)
set_option maxRecDepth 20000 in
theorem gX6_back_X5_rests : GoodIn wsX6_back (wsV RX6 75 RX5 yX5_rests wsX5_rests) := goodIn_app (goodIn_of _ (by decide +kernel)) ggX6_back_X5_rests
set_option maxRecDepth 20000 in
theorem ggX6_back_X6_undoes : GoodIn wsX6_back wsX6_undoes := goodIn_r _ [23, 24, 25, 26, 27, 28, 29, 30] (by decide +kernel) (by decide +kernel)
set_option maxRecDepth 20000 in
theorem gX6_back_X6_undoes : GoodIn wsX6_back (wsV RX6 86 RX6 yX6_undoes wsX6_undoes) := goodIn_app (goodIn_of _ (by decide +kernel)) ggX6_back_X6_undoes
theorem dX6_back_0 : decode cX6_back 0 = .ok (.aload_n 1, 1) := by decide +kernel
theorem dX6_back_1 : decode cX6_back 1 = .ok (.invokevirtual 82, 3) := by decide +kernel
theorem dX6_back_4 : decode cX6_back 4 = .ok (.ifCond .ge 13, 3) := by decide +kernel
theorem dX6_back_7 : decode cX6_back 7 = .ok (.aload_n 1, 1) := by decide +kernel
theorem dX6_back_8 : decode cX6_back 8 = .ok (.iconst 4, 1) := by decide +kernel
theorem dX6_back_9 : decode cX6_back 9 = .ok (.aload_n 0, 1) := by decide +kernel
theorem dX6_back_10 : decode cX6_back 10 = .ok (.getfield 29, 3) := by decide +kernel
theorem dX6_back_13 : decode cX6_back 13 = .ok (.invokevirtual 75, 3) := by decide +kernel
theorem dX6_back_16 : decode cX6_back 16 = .ok (.return_, 1) := by decide +kernel
theorem dX6_back_17 : decode cX6_back 17 = .ok (.aload_n 1, 1) := by decide +kernel
theorem dX6_back_18 : decode cX6_back 18 = .ok (.getfield 54, 3) := by decide +kernel
theorem dX6_back_21 : decode cX6_back 21 = .ok (.aload_n 1, 1) := by decide +kernel
theorem dX6_back_22 : decode cX6_back 22 = .ok (.invokevirtual 82, 3) := by decide +kernel
theorem dX6_back_25 : decode cX6_back 25 = .ok (.aaload, 1) := by decide +kernel
theorem dX6_back_26 : decode cX6_back 26 = .ok (.astore_n 2, 1) := by decide +kernel
theorem dX6_back_27 : decode cX6_back 27 = .ok (.aload_n 2, 1) := by decide +kernel
theorem dX6_back_28 : decode cX6_back 28 = .ok (.iconst 5, 1) := by decide +kernel
theorem dX6_back_29 : decode cX6_back 29 = .ok (.iaload, 1) := by decide +kernel
theorem dX6_back_30 : decode cX6_back 30 = .ok (.ifCond .ne 14, 3) := by decide +kernel
theorem dX6_back_33 : decode cX6_back 33 = .ok (.aload_n 0, 1) := by decide +kernel
theorem dX6_back_34 : decode cX6_back 34 = .ok (.aload_n 2, 1) := by decide +kernel
theorem dX6_back_35 : decode cX6_back 35 = .ok (.invokevirtual 86, 3) := by decide +kernel
theorem dX6_back_38 : decode cX6_back 38 = .ok (.aload_n 1, 1) := by decide +kernel
theorem dX6_back_39 : decode cX6_back 39 = .ok (.iconst 0, 1) := by decide +kernel
theorem dX6_back_40 : decode cX6_back 40 = .ok (.putfield 90, 3) := by decide +kernel
theorem dX6_back_43 : decode cX6_back 43 = .ok (.return_, 1) := by decide +kernel
theorem dX6_back_44 : decode cX6_back 44 = .ok (.aload_n 2, 1) := by decide +kernel
theorem dX6_back_45 : decode cX6_back 45 = .ok (.iconst 5, 1) := by decide +kernel
theorem dX6_back_46 : decode cX6_back 46 = .ok (.dup2, 1) := by decide +kernel
theorem dX6_back_47 : decode cX6_back 47 = .ok (.iaload, 1) := by decide +kernel
theorem dX6_back_48 : decode cX6_back 48 = .ok (.iconst 1, 1) := by decide +kernel
theorem dX6_back_49 : decode cX6_back 49 = .ok (.isub, 1) := by decide +kernel
theorem dX6_back_50 : decode cX6_back 50 = .ok (.iastore, 1) := by decide +kernel
theorem dX6_back_51 : decode cX6_back 51 = .ok (.aload_n 0, 1) := by decide +kernel
theorem dX6_back_52 : decode cX6_back 52 = .ok (.dup, 1) := by decide +kernel
theorem dX6_back_53 : decode cX6_back 53 = .ok (.getfield 32, 3) := by decide +kernel
theorem dX6_back_56 : decode cX6_back 56 = .ok (.iconst 1, 1) := by decide +kernel
theorem dX6_back_57 : decode cX6_back 57 = .ok (.iadd, 1) := by decide +kernel
theorem dX6_back_58 : decode cX6_back 58 = .ok (.putfield 32, 3) := by decide +kernel
theorem dX6_back_61 : decode cX6_back 61 = .ok (.aload_n 1, 1) := by decide +kernel
theorem dX6_back_62 : decode cX6_back 62 = .ok (.dup, 1) := by decide +kernel
theorem dX6_back_63 : decode cX6_back 63 = .ok (.getfield 90, 3) := by decide +kernel
theorem dX6_back_66 : decode cX6_back 66 = .ok (.iconst 1, 1) := by decide +kernel
theorem dX6_back_67 : decode cX6_back 67 = .ok (.iadd, 1) := by decide +kernel
theorem dX6_back_68 : decode cX6_back 68 = .ok (.putfield 90, 3) := by decide +kernel
theorem dX6_back_71 : decode cX6_back 71 = .ok (.aload_n 1, 1) := by decide +kernel
theorem dX6_back_72 : decode cX6_back 72 = .ok (.getfield 90, 3) := by decide +kernel
theorem dX6_back_75 : decode cX6_back 75 = .ok (.aload_n 0, 1) := by decide +kernel
theorem dX6_back_76 : decode cX6_back 76 = .ok (.getfield 13, 3) := by decide +kernel
theorem dX6_back_79 : decode cX6_back 79 = .ok (.if_icmp .lt 12, 3) := by decide +kernel
theorem dX6_back_82 : decode cX6_back 82 = .ok (.aload_n 1, 1) := by decide +kernel
theorem dX6_back_83 : decode cX6_back 83 = .ok (.iconst 5, 1) := by decide +kernel
theorem dX6_back_84 : decode cX6_back 84 = .ok (.aload_n 0, 1) := by decide +kernel
theorem dX6_back_85 : decode cX6_back 85 = .ok (.getfield 29, 3) := by decide +kernel
theorem dX6_back_88 : decode cX6_back 88 = .ok (.invokevirtual 75, 3) := by decide +kernel
theorem dX6_back_91 : decode cX6_back 91 = .ok (.return_, 1) := by decide +kernel
theorem dX6_undoes_0 : decode cX6_undoes 0 = .ok (.aload_n 0, 1) := by decide +kernel
theorem dX6_undoes_1 : decode cX6_undoes 1 = .ok (.getfield 18, 3) := by decide +kernel
theorem dX6_undoes_4 : decode cX6_undoes 4 = .ok (.aload_n 1, 1) := by decide +kernel
theorem dX6_undoes_5 : decode cX6_undoes 5 = .ok (.iconst 1, 1) := by decide +kernel
theorem dX6_undoes_6 : decode cX6_undoes 6 = .ok (.iaload, 1) := by decide +kernel
theorem dX6_undoes_7 : decode cX6_undoes 7 = .ok (.aaload, 1) := by decide +kernel
theorem dX6_undoes_8 : decode cX6_undoes 8 = .ok (.iconst 0, 1) := by decide +kernel
theorem dX6_undoes_9 : decode cX6_undoes 9 = .ok (.dup2, 1) := by decide +kernel
theorem dX6_undoes_10 : decode cX6_undoes 10 = .ok (.iaload, 1) := by decide +kernel
theorem dX6_undoes_11 : decode cX6_undoes 11 = .ok (.aload_n 1, 1) := by decide +kernel
theorem dX6_undoes_12 : decode cX6_undoes 12 = .ok (.iconst 2, 1) := by decide +kernel
theorem dX6_undoes_13 : decode cX6_undoes 13 = .ok (.iaload, 1) := by decide +kernel
theorem dX6_undoes_14 : decode cX6_undoes 14 = .ok (.iadd, 1) := by decide +kernel
theorem dX6_undoes_15 : decode cX6_undoes 15 = .ok (.iastore, 1) := by decide +kernel
theorem dX6_undoes_16 : decode cX6_undoes 16 = .ok (.aload_n 1, 1) := by decide +kernel
theorem dX6_undoes_17 : decode cX6_undoes 17 = .ok (.iconst 4, 1) := by decide +kernel
theorem dX6_undoes_18 : decode cX6_undoes 18 = .ok (.iconst 5, 1) := by decide +kernel
theorem dX6_undoes_19 : decode cX6_undoes 19 = .ok (.iastore, 1) := by decide +kernel
theorem dX6_undoes_20 : decode cX6_undoes 20 = .ok (.return_, 1) := by decide +kernel
set_option maxRecDepth 20000 in
theorem ggX6_tick_X5_opens : GoodIn wsX6_tick wsX5_opens := goodIn_r _ [10, 11, 12, 84, 85, 86, 87, 88, 89, 90] (by decide +kernel) (by decide +kernel)
set_option maxRecDepth 20000 in
theorem gX6_tick_X5_opens : GoodIn wsX6_tick (wsV RX6 71 RX5 yX5_opens wsX5_opens) := goodIn_app (goodIn_of _ (by decide +kernel)) ggX6_tick_X5_opens
set_option maxRecDepth 20000 in
theorem ggX6_tick_X6_goes : GoodIn wsX6_tick wsX6_goes := goodIn_r _ [17, 18, 19, 5, 20, 21, 22, 23, 16, 24, 25, 26, 27, 28, 29, 9, 30, 12, 31, 32, 33, 34, 35, 36, 37, 38, 39, 1, 40, 41, 42, 43, 44, 45, 46, 47, 48, 49, 50, 51, 52, 6, 7, 8, 10, 11, 53, 54, 55, 56, 57, 58, 59, 60, 61, 62, 84, 85, 86, 87, 88, 89, 90, 78, 79, 80, 81, 82, 83] (by decide +kernel) (by decide +kernel)
set_option maxRecDepth 20000 in
theorem gX6_tick_X6_goes : GoodIn wsX6_tick (wsV RX6 99 RX6 yX6_goes wsX6_goes) := goodIn_app (goodIn_of _ (by decide +kernel)) ggX6_tick_X6_goes
set_option maxRecDepth 20000 in
theorem ggX6_tick_X6_back : GoodIn wsX6_tick wsX6_back := goodIn_r _ [66, 5, 19, 67, 68, 69, 70, 71, 72, 9, 73, 12, 53, 54, 55, 56, 35, 11, 57, 74, 75, 76, 16, 77, 25, 78, 79, 80, 81, 82, 83, 84, 85, 86, 87, 88, 89, 90] (by decide +kernel) (by decide +kernel)
set_option maxRecDepth 20000 in
theorem gX6_tick_X6_back : GoodIn wsX6_tick (wsV RX6 103 RX6 yX6_back wsX6_back) := goodIn_app (goodIn_of _ (by decide +kernel)) ggX6_tick_X6_back
theorem dX6_tick_0 : decode cX6_tick 0 = .ok (.aload_n 0, 1) := by decide +kernel
theorem dX6_tick_1 : decode cX6_tick 1 = .ok (.getfield 24, 3) := by decide +kernel
theorem dX6_tick_4 : decode cX6_tick 4 = .ok (.arraylength, 1) := by decide +kernel
theorem dX6_tick_5 : decode cX6_tick 5 = .ok (.newarray .boolean, 2) := by decide +kernel
theorem dX6_tick_7 : decode cX6_tick 7 = .ok (.astore_n 1, 1) := by decide +kernel
theorem dX6_tick_8 : decode cX6_tick 8 = .ok (.iconst 0, 1) := by decide +kernel
theorem dX6_tick_9 : decode cX6_tick 9 = .ok (.istore_n 2, 1) := by decide +kernel
theorem dX6_tick_10 : decode cX6_tick 10 = .ok (.iload_n 2, 1) := by decide +kernel
theorem dX6_tick_11 : decode cX6_tick 11 = .ok (.aload_n 0, 1) := by decide +kernel
theorem dX6_tick_12 : decode cX6_tick 12 = .ok (.getfield 24, 3) := by decide +kernel
theorem dX6_tick_15 : decode cX6_tick 15 = .ok (.arraylength, 1) := by decide +kernel
theorem dX6_tick_16 : decode cX6_tick 16 = .ok (.if_icmp .ge 60, 3) := by decide +kernel
theorem dX6_tick_19 : decode cX6_tick 19 = .ok (.aload_n 0, 1) := by decide +kernel
theorem dX6_tick_20 : decode cX6_tick 20 = .ok (.getfield 24, 3) := by decide +kernel
theorem dX6_tick_23 : decode cX6_tick 23 = .ok (.iload_n 2, 1) := by decide +kernel
theorem dX6_tick_24 : decode cX6_tick 24 = .ok (.aaload, 1) := by decide +kernel
theorem dX6_tick_25 : decode cX6_tick 25 = .ok (.astore_n 3, 1) := by decide +kernel
theorem dX6_tick_26 : decode cX6_tick 26 = .ok (.aload_n 1, 1) := by decide +kernel
theorem dX6_tick_27 : decode cX6_tick 27 = .ok (.iload_n 2, 1) := by decide +kernel
theorem dX6_tick_28 : decode cX6_tick 28 = .ok (.aload_n 3, 1) := by decide +kernel
theorem dX6_tick_29 : decode cX6_tick 29 = .ok (.getfield 93, 3) := by decide +kernel
theorem dX6_tick_32 : decode cX6_tick 32 = .ok (.iconst 2, 1) := by decide +kernel
theorem dX6_tick_33 : decode cX6_tick 33 = .ok (.if_icmp .ne 7, 3) := by decide +kernel
theorem dX6_tick_36 : decode cX6_tick 36 = .ok (.iconst 1, 1) := by decide +kernel
theorem dX6_tick_37 : decode cX6_tick 37 = .ok (.goto 4, 3) := by decide +kernel
theorem dX6_tick_40 : decode cX6_tick 40 = .ok (.iconst 0, 1) := by decide +kernel
theorem dX6_tick_41 : decode cX6_tick 41 = .ok (.bastore, 1) := by decide +kernel
theorem dX6_tick_42 : decode cX6_tick 42 = .ok (.aload_n 3, 1) := by decide +kernel
theorem dX6_tick_43 : decode cX6_tick 43 = .ok (.getfield 93, 3) := by decide +kernel
theorem dX6_tick_46 : decode cX6_tick 46 = .ok (.ifCond .ne 24, 3) := by decide +kernel
theorem dX6_tick_49 : decode cX6_tick 49 = .ok (.aload_n 3, 1) := by decide +kernel
theorem dX6_tick_50 : decode cX6_tick 50 = .ok (.getfield 96, 3) := by decide +kernel
theorem dX6_tick_53 : decode cX6_tick 53 = .ok (.aload_n 0, 1) := by decide +kernel
theorem dX6_tick_54 : decode cX6_tick 54 = .ok (.getfield 29, 3) := by decide +kernel
theorem dX6_tick_57 : decode cX6_tick 57 = .ok (.if_icmp .ne 13, 3) := by decide +kernel
theorem dX6_tick_60 : decode cX6_tick 60 = .ok (.aload_n 3, 1) := by decide +kernel
theorem dX6_tick_61 : decode cX6_tick 61 = .ok (.iconst 1, 1) := by decide +kernel
theorem dX6_tick_62 : decode cX6_tick 62 = .ok (.putfield 93, 3) := by decide +kernel
theorem dX6_tick_65 : decode cX6_tick 65 = .ok (.aload_n 3, 1) := by decide +kernel
theorem dX6_tick_66 : decode cX6_tick 66 = .ok (.iconst 0, 1) := by decide +kernel
theorem dX6_tick_67 : decode cX6_tick 67 = .ok (.invokevirtual 71, 3) := by decide +kernel
theorem dX6_tick_70 : decode cX6_tick 70 = .ok (.iinc 2 1, 3) := by decide +kernel
theorem dX6_tick_73 : decode cX6_tick 73 = .ok (.goto (-63), 3) := by decide +kernel
theorem dX6_tick_76 : decode cX6_tick 76 = .ok (.aload_n 0, 1) := by decide +kernel
theorem dX6_tick_77 : decode cX6_tick 77 = .ok (.getfield 24, 3) := by decide +kernel
theorem dX6_tick_80 : decode cX6_tick 80 = .ok (.astore_n 2, 1) := by decide +kernel
theorem dX6_tick_81 : decode cX6_tick 81 = .ok (.aload_n 2, 1) := by decide +kernel
theorem dX6_tick_82 : decode cX6_tick 82 = .ok (.arraylength, 1) := by decide +kernel
theorem dX6_tick_83 : decode cX6_tick 83 = .ok (.istore_n 3, 1) := by decide +kernel
theorem dX6_tick_84 : decode cX6_tick 84 = .ok (.iconst 0, 1) := by decide +kernel
theorem dX6_tick_85 : decode cX6_tick 85 = .ok (.istore 4, 2) := by decide +kernel
theorem dX6_tick_87 : decode cX6_tick 87 = .ok (.iload 4, 2) := by decide +kernel
theorem dX6_tick_89 : decode cX6_tick 89 = .ok (.iload_n 3, 1) := by decide +kernel
theorem dX6_tick_90 : decode cX6_tick 90 = .ok (.if_icmp .ge 30, 3) := by decide +kernel
theorem dX6_tick_93 : decode cX6_tick 93 = .ok (.aload_n 2, 1) := by decide +kernel
theorem dX6_tick_94 : decode cX6_tick 94 = .ok (.iload 4, 2) := by decide +kernel
theorem dX6_tick_96 : decode cX6_tick 96 = .ok (.aaload, 1) := by decide +kernel
theorem dX6_tick_97 : decode cX6_tick 97 = .ok (.astore 5, 2) := by decide +kernel
theorem dX6_tick_99 : decode cX6_tick 99 = .ok (.aload 5, 2) := by decide +kernel
theorem dX6_tick_101 : decode cX6_tick 101 = .ok (.getfield 93, 3) := by decide +kernel
theorem dX6_tick_104 : decode cX6_tick 104 = .ok (.iconst 1, 1) := by decide +kernel
theorem dX6_tick_105 : decode cX6_tick 105 = .ok (.if_icmp .ne 9, 3) := by decide +kernel
theorem dX6_tick_108 : decode cX6_tick 108 = .ok (.aload_n 0, 1) := by decide +kernel
theorem dX6_tick_109 : decode cX6_tick 109 = .ok (.aload 5, 2) := by decide +kernel
theorem dX6_tick_111 : decode cX6_tick 111 = .ok (.invokevirtual 99, 3) := by decide +kernel
theorem dX6_tick_114 : decode cX6_tick 114 = .ok (.iinc 4 1, 3) := by decide +kernel
theorem dX6_tick_117 : decode cX6_tick 117 = .ok (.goto (-30), 3) := by decide +kernel
theorem dX6_tick_120 : decode cX6_tick 120 = .ok (.iconst 0, 1) := by decide +kernel
theorem dX6_tick_121 : decode cX6_tick 121 = .ok (.istore_n 2, 1) := by decide +kernel
theorem dX6_tick_122 : decode cX6_tick 122 = .ok (.iload_n 2, 1) := by decide +kernel
theorem dX6_tick_123 : decode cX6_tick 123 = .ok (.aload_n 0, 1) := by decide +kernel
theorem dX6_tick_124 : decode cX6_tick 124 = .ok (.getfield 24, 3) := by decide +kernel
theorem dX6_tick_127 : decode cX6_tick 127 = .ok (.arraylength, 1) := by decide +kernel
theorem dX6_tick_128 : decode cX6_tick 128 = .ok (.if_icmp .ge 25, 3) := by decide +kernel
theorem dX6_tick_131 : decode cX6_tick 131 = .ok (.aload_n 1, 1) := by decide +kernel
theorem dX6_tick_132 : decode cX6_tick 132 = .ok (.iload_n 2, 1) := by decide +kernel
theorem dX6_tick_133 : decode cX6_tick 133 = .ok (.baload, 1) := by decide +kernel
theorem dX6_tick_134 : decode cX6_tick 134 = .ok (.ifCond .eq 13, 3) := by decide +kernel
theorem dX6_tick_137 : decode cX6_tick 137 = .ok (.aload_n 0, 1) := by decide +kernel
theorem dX6_tick_138 : decode cX6_tick 138 = .ok (.aload_n 0, 1) := by decide +kernel
theorem dX6_tick_139 : decode cX6_tick 139 = .ok (.getfield 24, 3) := by decide +kernel
theorem dX6_tick_142 : decode cX6_tick 142 = .ok (.iload_n 2, 1) := by decide +kernel
theorem dX6_tick_143 : decode cX6_tick 143 = .ok (.aaload, 1) := by decide +kernel
theorem dX6_tick_144 : decode cX6_tick 144 = .ok (.invokevirtual 103, 3) := by decide +kernel
theorem dX6_tick_147 : decode cX6_tick 147 = .ok (.iinc 2 1, 3) := by decide +kernel
theorem dX6_tick_150 : decode cX6_tick 150 = .ok (.goto (-28), 3) := by decide +kernel
theorem dX6_tick_153 : decode cX6_tick 153 = .ok (.aload_n 0, 1) := by decide +kernel
theorem dX6_tick_154 : decode cX6_tick 154 = .ok (.dup, 1) := by decide +kernel
theorem dX6_tick_155 : decode cX6_tick 155 = .ok (.getfield 29, 3) := by decide +kernel
theorem dX6_tick_158 : decode cX6_tick 158 = .ok (.iconst 1, 1) := by decide +kernel
theorem dX6_tick_159 : decode cX6_tick 159 = .ok (.iadd, 1) := by decide +kernel
theorem dX6_tick_160 : decode cX6_tick 160 = .ok (.putfield 29, 3) := by decide +kernel
theorem dX6_tick_163 : decode cX6_tick 163 = .ok (.return_, 1) := by decide +kernel
theorem dX6_count_0 : decode cX6_count 0 = .ok (.iconst 0, 1) := by decide +kernel
theorem dX6_count_1 : decode cX6_count 1 = .ok (.istore_n 2, 1) := by decide +kernel
theorem dX6_count_2 : decode cX6_count 2 = .ok (.aload_n 0, 1) := by decide +kernel
theorem dX6_count_3 : decode cX6_count 3 = .ok (.getfield 24, 3) := by decide +kernel
theorem dX6_count_6 : decode cX6_count 6 = .ok (.astore_n 3, 1) := by decide +kernel
theorem dX6_count_7 : decode cX6_count 7 = .ok (.aload_n 3, 1) := by decide +kernel
theorem dX6_count_8 : decode cX6_count 8 = .ok (.arraylength, 1) := by decide +kernel
theorem dX6_count_9 : decode cX6_count 9 = .ok (.istore 4, 2) := by decide +kernel
theorem dX6_count_11 : decode cX6_count 11 = .ok (.iconst 0, 1) := by decide +kernel
theorem dX6_count_12 : decode cX6_count 12 = .ok (.istore 5, 2) := by decide +kernel
theorem dX6_count_14 : decode cX6_count 14 = .ok (.iload 5, 2) := by decide +kernel
theorem dX6_count_16 : decode cX6_count 16 = .ok (.iload 4, 2) := by decide +kernel
theorem dX6_count_18 : decode cX6_count 18 = .ok (.if_icmp .ge 27, 3) := by decide +kernel
theorem dX6_count_21 : decode cX6_count 21 = .ok (.aload_n 3, 1) := by decide +kernel
theorem dX6_count_22 : decode cX6_count 22 = .ok (.iload 5, 2) := by decide +kernel
theorem dX6_count_24 : decode cX6_count 24 = .ok (.aaload, 1) := by decide +kernel
theorem dX6_count_25 : decode cX6_count 25 = .ok (.astore 6, 2) := by decide +kernel
theorem dX6_count_27 : decode cX6_count 27 = .ok (.aload 6, 2) := by decide +kernel
theorem dX6_count_29 : decode cX6_count 29 = .ok (.getfield 93, 3) := by decide +kernel
theorem dX6_count_32 : decode cX6_count 32 = .ok (.iload_n 1, 1) := by decide +kernel
theorem dX6_count_33 : decode cX6_count 33 = .ok (.if_icmp .ne 6, 3) := by decide +kernel
theorem dX6_count_36 : decode cX6_count 36 = .ok (.iinc 2 1, 3) := by decide +kernel
theorem dX6_count_39 : decode cX6_count 39 = .ok (.iinc 5 1, 3) := by decide +kernel
theorem dX6_count_42 : decode cX6_count 42 = .ok (.goto (-28), 3) := by decide +kernel
theorem dX6_count_45 : decode cX6_count 45 = .ok (.iload_n 2, 1) := by decide +kernel
theorem dX6_count_46 : decode cX6_count 46 = .ok (.ireturn, 1) := by decide +kernel
set_option maxRecDepth 20000 in
theorem ggX6_told_X6_count : GoodIn wsX6_told wsX6_count := goodIn_r _ [12, 1, 13, 14, 15, 16, 17, 18, 19, 20, 21, 22, 23, 24, 25, 26] (by decide +kernel) (by decide +kernel)
set_option maxRecDepth 20000 in
theorem gX6_told_X6_count : GoodIn wsX6_told (wsV RX6 106 RX6 yX6_count wsX6_count) := goodIn_app (goodIn_of _ (by decide +kernel)) ggX6_told_X6_count
theorem dX6_told_0 : decode cX6_told 0 = .ok (.iconst 0, 1) := by decide +kernel
theorem dX6_told_1 : decode cX6_told 1 = .ok (.istore_n 2, 1) := by decide +kernel
theorem dX6_told_2 : decode cX6_told 2 = .ok (.aload_n 0, 1) := by decide +kernel
theorem dX6_told_3 : decode cX6_told 3 = .ok (.getfield 24, 3) := by decide +kernel
theorem dX6_told_6 : decode cX6_told 6 = .ok (.astore_n 3, 1) := by decide +kernel
theorem dX6_told_7 : decode cX6_told 7 = .ok (.aload_n 3, 1) := by decide +kernel
theorem dX6_told_8 : decode cX6_told 8 = .ok (.arraylength, 1) := by decide +kernel
theorem dX6_told_9 : decode cX6_told 9 = .ok (.istore 4, 2) := by decide +kernel
theorem dX6_told_11 : decode cX6_told 11 = .ok (.iconst 0, 1) := by decide +kernel
theorem dX6_told_12 : decode cX6_told 12 = .ok (.istore 5, 2) := by decide +kernel
theorem dX6_told_14 : decode cX6_told 14 = .ok (.iload 5, 2) := by decide +kernel
theorem dX6_told_16 : decode cX6_told 16 = .ok (.iload 4, 2) := by decide +kernel
theorem dX6_told_18 : decode cX6_told 18 = .ok (.if_icmp .ge 24, 3) := by decide +kernel
theorem dX6_told_21 : decode cX6_told 21 = .ok (.aload_n 3, 1) := by decide +kernel
theorem dX6_told_22 : decode cX6_told 22 = .ok (.iload 5, 2) := by decide +kernel
theorem dX6_told_24 : decode cX6_told 24 = .ok (.aaload, 1) := by decide +kernel
theorem dX6_told_25 : decode cX6_told 25 = .ok (.astore 6, 2) := by decide +kernel
theorem dX6_told_27 : decode cX6_told 27 = .ok (.iload_n 2, 1) := by decide +kernel
theorem dX6_told_28 : decode cX6_told 28 = .ok (.aload 6, 2) := by decide +kernel
theorem dX6_told_30 : decode cX6_told 30 = .ok (.getfield 54, 3) := by decide +kernel
theorem dX6_told_33 : decode cX6_told 33 = .ok (.arraylength, 1) := by decide +kernel
theorem dX6_told_34 : decode cX6_told 34 = .ok (.iadd, 1) := by decide +kernel
theorem dX6_told_35 : decode cX6_told 35 = .ok (.istore_n 2, 1) := by decide +kernel
theorem dX6_told_36 : decode cX6_told 36 = .ok (.iinc 5 1, 3) := by decide +kernel
theorem dX6_told_39 : decode cX6_told 39 = .ok (.goto (-25), 3) := by decide +kernel
theorem dX6_told_42 : decode cX6_told 42 = .ok (.iload_n 1, 1) := by decide +kernel
theorem dX6_told_43 : decode cX6_told 43 = .ok (.ifCond .ne 10, 3) := by decide +kernel
theorem dX6_told_46 : decode cX6_told 46 = .ok (.aload_n 0, 1) := by decide +kernel
theorem dX6_told_47 : decode cX6_told 47 = .ok (.getfield 29, 3) := by decide +kernel
theorem dX6_told_50 : decode cX6_told 50 = .ok (.goto 82, 3) := by decide +kernel
theorem dX6_told_53 : decode cX6_told 53 = .ok (.iload_n 1, 1) := by decide +kernel
theorem dX6_told_54 : decode cX6_told 54 = .ok (.iconst 1, 1) := by decide +kernel
theorem dX6_told_55 : decode cX6_told 55 = .ok (.if_icmp .ne 11, 3) := by decide +kernel
theorem dX6_told_58 : decode cX6_told 58 = .ok (.aload_n 0, 1) := by decide +kernel
theorem dX6_told_59 : decode cX6_told 59 = .ok (.getfield 18, 3) := by decide +kernel
theorem dX6_told_62 : decode cX6_told 62 = .ok (.arraylength, 1) := by decide +kernel
theorem dX6_told_63 : decode cX6_told 63 = .ok (.goto 69, 3) := by decide +kernel
theorem dX6_told_66 : decode cX6_told 66 = .ok (.iload_n 1, 1) := by decide +kernel
theorem dX6_told_67 : decode cX6_told 67 = .ok (.iconst 2, 1) := by decide +kernel
theorem dX6_told_68 : decode cX6_told 68 = .ok (.if_icmp .ne 11, 3) := by decide +kernel
theorem dX6_told_71 : decode cX6_told 71 = .ok (.aload_n 0, 1) := by decide +kernel
theorem dX6_told_72 : decode cX6_told 72 = .ok (.getfield 24, 3) := by decide +kernel
theorem dX6_told_75 : decode cX6_told 75 = .ok (.arraylength, 1) := by decide +kernel
theorem dX6_told_76 : decode cX6_told 76 = .ok (.goto 56, 3) := by decide +kernel
theorem dX6_told_79 : decode cX6_told 79 = .ok (.iload_n 1, 1) := by decide +kernel
theorem dX6_told_80 : decode cX6_told 80 = .ok (.iconst 3, 1) := by decide +kernel
theorem dX6_told_81 : decode cX6_told 81 = .ok (.if_icmp .ne 7, 3) := by decide +kernel
theorem dX6_told_84 : decode cX6_told 84 = .ok (.iload_n 2, 1) := by decide +kernel
theorem dX6_told_85 : decode cX6_told 85 = .ok (.goto 47, 3) := by decide +kernel
theorem dX6_told_88 : decode cX6_told 88 = .ok (.iload_n 1, 1) := by decide +kernel
theorem dX6_told_89 : decode cX6_told 89 = .ok (.iconst 4, 1) := by decide +kernel
theorem dX6_told_90 : decode cX6_told 90 = .ok (.if_icmp .ne 10, 3) := by decide +kernel
theorem dX6_told_93 : decode cX6_told 93 = .ok (.aload_n 0, 1) := by decide +kernel
theorem dX6_told_94 : decode cX6_told 94 = .ok (.getfield 7, 3) := by decide +kernel
theorem dX6_told_97 : decode cX6_told 97 = .ok (.goto 35, 3) := by decide +kernel
theorem dX6_told_100 : decode cX6_told 100 = .ok (.iload_n 1, 1) := by decide +kernel
theorem dX6_told_101 : decode cX6_told 101 = .ok (.iconst 5, 1) := by decide +kernel
theorem dX6_told_102 : decode cX6_told 102 = .ok (.if_icmp .ne 10, 3) := by decide +kernel
theorem dX6_told_105 : decode cX6_told 105 = .ok (.aload_n 0, 1) := by decide +kernel
theorem dX6_told_106 : decode cX6_told 106 = .ok (.getfield 13, 3) := by decide +kernel
theorem dX6_told_109 : decode cX6_told 109 = .ok (.goto 23, 3) := by decide +kernel
theorem dX6_told_112 : decode cX6_told 112 = .ok (.iload_n 1, 1) := by decide +kernel
theorem dX6_told_113 : decode cX6_told 113 = .ok (.bipush 9, 2) := by decide +kernel
theorem dX6_told_115 : decode cX6_told 115 = .ok (.if_icmp .ge 13, 3) := by decide +kernel
theorem dX6_told_118 : decode cX6_told 118 = .ok (.aload_n 0, 1) := by decide +kernel
theorem dX6_told_119 : decode cX6_told 119 = .ok (.iload_n 1, 1) := by decide +kernel
theorem dX6_told_120 : decode cX6_told 120 = .ok (.iconst 3, 1) := by decide +kernel
theorem dX6_told_121 : decode cX6_told 121 = .ok (.isub, 1) := by decide +kernel
theorem dX6_told_122 : decode cX6_told 122 = .ok (.invokevirtual 106, 3) := by decide +kernel
theorem dX6_told_125 : decode cX6_told 125 = .ok (.goto 7, 3) := by decide +kernel
theorem dX6_told_128 : decode cX6_told 128 = .ok (.aload_n 0, 1) := by decide +kernel
theorem dX6_told_129 : decode cX6_told 129 = .ok (.getfield 32, 3) := by decide +kernel
theorem dX6_told_132 : decode cX6_told 132 = .ok (.ireturn, 1) := by decide +kernel
set_option maxRecDepth 20000 in
theorem ggX6_ofStock_X5_isOpen : GoodIn wsX6_ofStock wsX5_isOpen := goodIn_r _ [9, 10, 28, 29, 30, 31, 32, 33, 34] (by decide +kernel) (by decide +kernel)
set_option maxRecDepth 20000 in
theorem gX6_ofStock_X5_isOpen : GoodIn wsX6_ofStock (wsV RX6 108 RX5 yX5_isOpen wsX5_isOpen) := goodIn_app (goodIn_of _ (by decide +kernel)) ggX6_ofStock_X5_isOpen
set_option maxRecDepth 20000 in
theorem ggX6_ofStock_X6_holders : GoodIn wsX6_ofStock wsX6_holders := goodIn_r _ [15, 1, 16, 17, 18, 8, 19, 20, 21, 6, 7, 9, 10, 22, 23, 24, 25, 26, 27, 28, 29, 30, 31, 32, 33, 34] (by decide +kernel) (by decide +kernel)
set_option maxRecDepth 20000 in
theorem gX6_ofStock_X6_holders : GoodIn wsX6_ofStock (wsV RX6 47 RX6 yX6_holders wsX6_holders) := goodIn_app (goodIn_of _ (by decide +kernel)) ggX6_ofStock_X6_holders
theorem dX6_ofStock_0 : decode cX6_ofStock 0 = .ok (.iconst 0, 1) := by decide +kernel
theorem dX6_ofStock_1 : decode cX6_ofStock 1 = .ok (.istore_n 3, 1) := by decide +kernel
theorem dX6_ofStock_2 : decode cX6_ofStock 2 = .ok (.aload_n 0, 1) := by decide +kernel
theorem dX6_ofStock_3 : decode cX6_ofStock 3 = .ok (.getfield 24, 3) := by decide +kernel
theorem dX6_ofStock_6 : decode cX6_ofStock 6 = .ok (.astore 4, 2) := by decide +kernel
theorem dX6_ofStock_8 : decode cX6_ofStock 8 = .ok (.aload 4, 2) := by decide +kernel
theorem dX6_ofStock_10 : decode cX6_ofStock 10 = .ok (.arraylength, 1) := by decide +kernel
theorem dX6_ofStock_11 : decode cX6_ofStock 11 = .ok (.istore 5, 2) := by decide +kernel
theorem dX6_ofStock_13 : decode cX6_ofStock 13 = .ok (.iconst 0, 1) := by decide +kernel
theorem dX6_ofStock_14 : decode cX6_ofStock 14 = .ok (.istore 6, 2) := by decide +kernel
theorem dX6_ofStock_16 : decode cX6_ofStock 16 = .ok (.iload 6, 2) := by decide +kernel
theorem dX6_ofStock_18 : decode cX6_ofStock 18 = .ok (.iload 5, 2) := by decide +kernel
theorem dX6_ofStock_20 : decode cX6_ofStock 20 = .ok (.if_icmp .ge 141, 3) := by decide +kernel
theorem dX6_ofStock_23 : decode cX6_ofStock 23 = .ok (.aload 4, 2) := by decide +kernel
theorem dX6_ofStock_25 : decode cX6_ofStock 25 = .ok (.iload 6, 2) := by decide +kernel
theorem dX6_ofStock_27 : decode cX6_ofStock 27 = .ok (.aaload, 1) := by decide +kernel
theorem dX6_ofStock_28 : decode cX6_ofStock 28 = .ok (.astore 7, 2) := by decide +kernel
theorem dX6_ofStock_30 : decode cX6_ofStock 30 = .ok (.aload 7, 2) := by decide +kernel
theorem dX6_ofStock_32 : decode cX6_ofStock 32 = .ok (.getfield 54, 3) := by decide +kernel
theorem dX6_ofStock_35 : decode cX6_ofStock 35 = .ok (.astore 8, 2) := by decide +kernel
theorem dX6_ofStock_37 : decode cX6_ofStock 37 = .ok (.aload 8, 2) := by decide +kernel
theorem dX6_ofStock_39 : decode cX6_ofStock 39 = .ok (.arraylength, 1) := by decide +kernel
theorem dX6_ofStock_40 : decode cX6_ofStock 40 = .ok (.istore 9, 2) := by decide +kernel
theorem dX6_ofStock_42 : decode cX6_ofStock 42 = .ok (.iconst 0, 1) := by decide +kernel
theorem dX6_ofStock_43 : decode cX6_ofStock 43 = .ok (.istore 10, 2) := by decide +kernel
theorem dX6_ofStock_45 : decode cX6_ofStock 45 = .ok (.iload 10, 2) := by decide +kernel
theorem dX6_ofStock_47 : decode cX6_ofStock 47 = .ok (.iload 9, 2) := by decide +kernel
theorem dX6_ofStock_49 : decode cX6_ofStock 49 = .ok (.if_icmp .ge 106, 3) := by decide +kernel
theorem dX6_ofStock_52 : decode cX6_ofStock 52 = .ok (.aload 8, 2) := by decide +kernel
theorem dX6_ofStock_54 : decode cX6_ofStock 54 = .ok (.iload 10, 2) := by decide +kernel
theorem dX6_ofStock_56 : decode cX6_ofStock 56 = .ok (.aaload, 1) := by decide +kernel
theorem dX6_ofStock_57 : decode cX6_ofStock 57 = .ok (.astore 11, 2) := by decide +kernel
theorem dX6_ofStock_59 : decode cX6_ofStock 59 = .ok (.aload 11, 2) := by decide +kernel
theorem dX6_ofStock_61 : decode cX6_ofStock 61 = .ok (.iconst 4, 1) := by decide +kernel
theorem dX6_ofStock_62 : decode cX6_ofStock 62 = .ok (.iaload, 1) := by decide +kernel
theorem dX6_ofStock_63 : decode cX6_ofStock 63 = .ok (.iconst 2, 1) := by decide +kernel
theorem dX6_ofStock_64 : decode cX6_ofStock 64 = .ok (.if_icmp .eq 11, 3) := by decide +kernel
theorem dX6_ofStock_67 : decode cX6_ofStock 67 = .ok (.aload 11, 2) := by decide +kernel
theorem dX6_ofStock_69 : decode cX6_ofStock 69 = .ok (.iconst 4, 1) := by decide +kernel
theorem dX6_ofStock_70 : decode cX6_ofStock 70 = .ok (.iaload, 1) := by decide +kernel
theorem dX6_ofStock_71 : decode cX6_ofStock 71 = .ok (.iconst 3, 1) := by decide +kernel
theorem dX6_ofStock_72 : decode cX6_ofStock 72 = .ok (.if_icmp .ne 7, 3) := by decide +kernel
theorem dX6_ofStock_75 : decode cX6_ofStock 75 = .ok (.iconst 1, 1) := by decide +kernel
theorem dX6_ofStock_76 : decode cX6_ofStock 76 = .ok (.goto 4, 3) := by decide +kernel
theorem dX6_ofStock_79 : decode cX6_ofStock 79 = .ok (.iconst 0, 1) := by decide +kernel
theorem dX6_ofStock_80 : decode cX6_ofStock 80 = .ok (.istore 12, 2) := by decide +kernel
theorem dX6_ofStock_82 : decode cX6_ofStock 82 = .ok (.aload 11, 2) := by decide +kernel
theorem dX6_ofStock_84 : decode cX6_ofStock 84 = .ok (.iconst 1, 1) := by decide +kernel
theorem dX6_ofStock_85 : decode cX6_ofStock 85 = .ok (.iaload, 1) := by decide +kernel
theorem dX6_ofStock_86 : decode cX6_ofStock 86 = .ok (.iload_n 1, 1) := by decide +kernel
theorem dX6_ofStock_87 : decode cX6_ofStock 87 = .ok (.if_icmp .ne 62, 3) := by decide +kernel
theorem dX6_ofStock_90 : decode cX6_ofStock 90 = .ok (.iload_n 2, 1) := by decide +kernel
theorem dX6_ofStock_91 : decode cX6_ofStock 91 = .ok (.iconst 3, 1) := by decide +kernel
theorem dX6_ofStock_92 : decode cX6_ofStock 92 = .ok (.if_icmp .ne 19, 3) := by decide +kernel
theorem dX6_ofStock_95 : decode cX6_ofStock 95 = .ok (.iload 12, 2) := by decide +kernel
theorem dX6_ofStock_97 : decode cX6_ofStock 97 = .ok (.ifCond .eq 52, 3) := by decide +kernel
theorem dX6_ofStock_100 : decode cX6_ofStock 100 = .ok (.aload 7, 2) := by decide +kernel
theorem dX6_ofStock_102 : decode cX6_ofStock 102 = .ok (.invokevirtual 108, 3) := by decide +kernel
theorem dX6_ofStock_105 : decode cX6_ofStock 105 = .ok (.ifCond .eq 44, 3) := by decide +kernel
theorem dX6_ofStock_108 : decode cX6_ofStock 108 = .ok (.goto 34, 3) := by decide +kernel
theorem dX6_ofStock_111 : decode cX6_ofStock 111 = .ok (.iload_n 2, 1) := by decide +kernel
theorem dX6_ofStock_112 : decode cX6_ofStock 112 = .ok (.iconst 4, 1) := by decide +kernel
theorem dX6_ofStock_113 : decode cX6_ofStock 113 = .ok (.if_icmp .ne 20, 3) := by decide +kernel
theorem dX6_ofStock_116 : decode cX6_ofStock 116 = .ok (.iload 12, 2) := by decide +kernel
theorem dX6_ofStock_118 : decode cX6_ofStock 118 = .ok (.ifCond .eq 31, 3) := by decide +kernel
theorem dX6_ofStock_121 : decode cX6_ofStock 121 = .ok (.aload 7, 2) := by decide +kernel
theorem dX6_ofStock_123 : decode cX6_ofStock 123 = .ok (.getfield 93, 3) := by decide +kernel
theorem dX6_ofStock_126 : decode cX6_ofStock 126 = .ok (.iconst 3, 1) := by decide +kernel
theorem dX6_ofStock_127 : decode cX6_ofStock 127 = .ok (.if_icmp .ne 22, 3) := by decide +kernel
theorem dX6_ofStock_130 : decode cX6_ofStock 130 = .ok (.goto 12, 3) := by decide +kernel
theorem dX6_ofStock_133 : decode cX6_ofStock 133 = .ok (.aload 11, 2) := by decide +kernel
theorem dX6_ofStock_135 : decode cX6_ofStock 135 = .ok (.iconst 4, 1) := by decide +kernel
theorem dX6_ofStock_136 : decode cX6_ofStock 136 = .ok (.iaload, 1) := by decide +kernel
theorem dX6_ofStock_137 : decode cX6_ofStock 137 = .ok (.bipush 6, 2) := by decide +kernel
theorem dX6_ofStock_139 : decode cX6_ofStock 139 = .ok (.if_icmp .ne 10, 3) := by decide +kernel
theorem dX6_ofStock_142 : decode cX6_ofStock 142 = .ok (.iload_n 3, 1) := by decide +kernel
theorem dX6_ofStock_143 : decode cX6_ofStock 143 = .ok (.aload 11, 2) := by decide +kernel
theorem dX6_ofStock_145 : decode cX6_ofStock 145 = .ok (.iconst 2, 1) := by decide +kernel
theorem dX6_ofStock_146 : decode cX6_ofStock 146 = .ok (.iaload, 1) := by decide +kernel
theorem dX6_ofStock_147 : decode cX6_ofStock 147 = .ok (.iadd, 1) := by decide +kernel
theorem dX6_ofStock_148 : decode cX6_ofStock 148 = .ok (.istore_n 3, 1) := by decide +kernel
theorem dX6_ofStock_149 : decode cX6_ofStock 149 = .ok (.iinc 10 1, 3) := by decide +kernel
theorem dX6_ofStock_152 : decode cX6_ofStock 152 = .ok (.goto (-107), 3) := by decide +kernel
theorem dX6_ofStock_155 : decode cX6_ofStock 155 = .ok (.iinc 6 1, 3) := by decide +kernel
theorem dX6_ofStock_158 : decode cX6_ofStock 158 = .ok (.goto (-142), 3) := by decide +kernel
theorem dX6_ofStock_161 : decode cX6_ofStock 161 = .ok (.iload_n 2, 1) := by decide +kernel
theorem dX6_ofStock_162 : decode cX6_ofStock 162 = .ok (.iconst 2, 1) := by decide +kernel
theorem dX6_ofStock_163 : decode cX6_ofStock 163 = .ok (.if_icmp .ge 14, 3) := by decide +kernel
theorem dX6_ofStock_166 : decode cX6_ofStock 166 = .ok (.aload_n 0, 1) := by decide +kernel
theorem dX6_ofStock_167 : decode cX6_ofStock 167 = .ok (.getfield 18, 3) := by decide +kernel
theorem dX6_ofStock_170 : decode cX6_ofStock 170 = .ok (.iload_n 1, 1) := by decide +kernel
theorem dX6_ofStock_171 : decode cX6_ofStock 171 = .ok (.aaload, 1) := by decide +kernel
theorem dX6_ofStock_172 : decode cX6_ofStock 172 = .ok (.iload_n 2, 1) := by decide +kernel
theorem dX6_ofStock_173 : decode cX6_ofStock 173 = .ok (.iaload, 1) := by decide +kernel
theorem dX6_ofStock_174 : decode cX6_ofStock 174 = .ok (.goto 17, 3) := by decide +kernel
theorem dX6_ofStock_177 : decode cX6_ofStock 177 = .ok (.iload_n 2, 1) := by decide +kernel
theorem dX6_ofStock_178 : decode cX6_ofStock 178 = .ok (.iconst 2, 1) := by decide +kernel
theorem dX6_ofStock_179 : decode cX6_ofStock 179 = .ok (.if_icmp .ne 11, 3) := by decide +kernel
theorem dX6_ofStock_182 : decode cX6_ofStock 182 = .ok (.aload_n 0, 1) := by decide +kernel
theorem dX6_ofStock_183 : decode cX6_ofStock 183 = .ok (.iload_n 1, 1) := by decide +kernel
theorem dX6_ofStock_184 : decode cX6_ofStock 184 = .ok (.invokevirtual 47, 3) := by decide +kernel
theorem dX6_ofStock_187 : decode cX6_ofStock 187 = .ok (.goto 4, 3) := by decide +kernel
theorem dX6_ofStock_190 : decode cX6_ofStock 190 = .ok (.iload_n 3, 1) := by decide +kernel
theorem dX6_ofStock_191 : decode cX6_ofStock 191 = .ok (.ireturn, 1) := by decide +kernel
set_option maxRecDepth 20000 in
theorem ggX6_ofTrip_X5_owes : GoodIn wsX6_ofTrip wsX5_owes := goodIn_r _ [12, 13, 14, 21, 22, 23, 24, 25, 26, 27] (by decide +kernel) (by decide +kernel)
set_option maxRecDepth 20000 in
theorem gX6_ofTrip_X5_owes : GoodIn wsX6_ofTrip (wsV RX6 115 RX5 yX5_owes wsX5_owes) := goodIn_app (goodIn_of _ (by decide +kernel)) ggX6_ofTrip_X5_owes
theorem dX6_ofTrip_0 : decode cX6_ofTrip 0 = .ok (.aload_n 0, 1) := by decide +kernel
theorem dX6_ofTrip_1 : decode cX6_ofTrip 1 = .ok (.getfield 24, 3) := by decide +kernel
theorem dX6_ofTrip_4 : decode cX6_ofTrip 4 = .ok (.iload_n 1, 1) := by decide +kernel
theorem dX6_ofTrip_5 : decode cX6_ofTrip 5 = .ok (.aaload, 1) := by decide +kernel
theorem dX6_ofTrip_6 : decode cX6_ofTrip 6 = .ok (.astore_n 3, 1) := by decide +kernel
theorem dX6_ofTrip_7 : decode cX6_ofTrip 7 = .ok (.iload_n 2, 1) := by decide +kernel
theorem dX6_ofTrip_8 : decode cX6_ofTrip 8 = .ok (.ifCond .ne 10, 3) := by decide +kernel
theorem dX6_ofTrip_11 : decode cX6_ofTrip 11 = .ok (.aload_n 3, 1) := by decide +kernel
theorem dX6_ofTrip_12 : decode cX6_ofTrip 12 = .ok (.getfield 93, 3) := by decide +kernel
theorem dX6_ofTrip_15 : decode cX6_ofTrip 15 = .ok (.goto 68, 3) := by decide +kernel
theorem dX6_ofTrip_18 : decode cX6_ofTrip 18 = .ok (.iload_n 2, 1) := by decide +kernel
theorem dX6_ofTrip_19 : decode cX6_ofTrip 19 = .ok (.iconst 1, 1) := by decide +kernel
theorem dX6_ofTrip_20 : decode cX6_ofTrip 20 = .ok (.if_icmp .ne 10, 3) := by decide +kernel
theorem dX6_ofTrip_23 : decode cX6_ofTrip 23 = .ok (.aload_n 3, 1) := by decide +kernel
theorem dX6_ofTrip_24 : decode cX6_ofTrip 24 = .ok (.getfield 96, 3) := by decide +kernel
theorem dX6_ofTrip_27 : decode cX6_ofTrip 27 = .ok (.goto 56, 3) := by decide +kernel
theorem dX6_ofTrip_30 : decode cX6_ofTrip 30 = .ok (.iload_n 2, 1) := by decide +kernel
theorem dX6_ofTrip_31 : decode cX6_ofTrip 31 = .ok (.iconst 2, 1) := by decide +kernel
theorem dX6_ofTrip_32 : decode cX6_ofTrip 32 = .ok (.if_icmp .ne 10, 3) := by decide +kernel
theorem dX6_ofTrip_35 : decode cX6_ofTrip 35 = .ok (.aload_n 3, 1) := by decide +kernel
theorem dX6_ofTrip_36 : decode cX6_ofTrip 36 = .ok (.getfield 68, 3) := by decide +kernel
theorem dX6_ofTrip_39 : decode cX6_ofTrip 39 = .ok (.goto 44, 3) := by decide +kernel
theorem dX6_ofTrip_42 : decode cX6_ofTrip 42 = .ok (.iload_n 2, 1) := by decide +kernel
theorem dX6_ofTrip_43 : decode cX6_ofTrip 43 = .ok (.iconst 3, 1) := by decide +kernel
theorem dX6_ofTrip_44 : decode cX6_ofTrip 44 = .ok (.if_icmp .ne 11, 3) := by decide +kernel
theorem dX6_ofTrip_47 : decode cX6_ofTrip 47 = .ok (.aload_n 3, 1) := by decide +kernel
theorem dX6_ofTrip_48 : decode cX6_ofTrip 48 = .ok (.getfield 54, 3) := by decide +kernel
theorem dX6_ofTrip_51 : decode cX6_ofTrip 51 = .ok (.arraylength, 1) := by decide +kernel
theorem dX6_ofTrip_52 : decode cX6_ofTrip 52 = .ok (.goto 31, 3) := by decide +kernel
theorem dX6_ofTrip_55 : decode cX6_ofTrip 55 = .ok (.iload_n 2, 1) := by decide +kernel
theorem dX6_ofTrip_56 : decode cX6_ofTrip 56 = .ok (.iconst 4, 1) := by decide +kernel
theorem dX6_ofTrip_57 : decode cX6_ofTrip 57 = .ok (.if_icmp .ne 10, 3) := by decide +kernel
theorem dX6_ofTrip_60 : decode cX6_ofTrip 60 = .ok (.aload_n 3, 1) := by decide +kernel
theorem dX6_ofTrip_61 : decode cX6_ofTrip 61 = .ok (.getfield 51, 3) := by decide +kernel
theorem dX6_ofTrip_64 : decode cX6_ofTrip 64 = .ok (.goto 19, 3) := by decide +kernel
theorem dX6_ofTrip_67 : decode cX6_ofTrip 67 = .ok (.iload_n 2, 1) := by decide +kernel
theorem dX6_ofTrip_68 : decode cX6_ofTrip 68 = .ok (.iconst 5, 1) := by decide +kernel
theorem dX6_ofTrip_69 : decode cX6_ofTrip 69 = .ok (.if_icmp .ne 10, 3) := by decide +kernel
theorem dX6_ofTrip_72 : decode cX6_ofTrip 72 = .ok (.aload_n 3, 1) := by decide +kernel
theorem dX6_ofTrip_73 : decode cX6_ofTrip 73 = .ok (.getfield 112, 3) := by decide +kernel
theorem dX6_ofTrip_76 : decode cX6_ofTrip 76 = .ok (.goto 7, 3) := by decide +kernel
theorem dX6_ofTrip_79 : decode cX6_ofTrip 79 = .ok (.aload_n 3, 1) := by decide +kernel
theorem dX6_ofTrip_80 : decode cX6_ofTrip 80 = .ok (.invokevirtual 115, 3) := by decide +kernel
theorem dX6_ofTrip_83 : decode cX6_ofTrip 83 = .ok (.ireturn, 1) := by decide +kernel
set_option maxRecDepth 20000 in
theorem ggX6_checksum_X6_told : GoodIn wsX6_checksum wsX6_told := goodIn_r _ [9, 3, 4, 10, 2, 11, 12, 13, 14, 15, 16, 8, 17, 18, 51, 52, 53, 54, 55, 56, 57, 58, 59, 60, 61, 62, 63] (by decide +kernel) (by decide +kernel)
set_option maxRecDepth 20000 in
theorem gX6_checksum_X6_told : GoodIn wsX6_checksum (wsV RX6 120 RX6 yX6_told wsX6_told) := goodIn_app (goodIn_of _ (by decide +kernel)) ggX6_checksum_X6_told
set_option maxRecDepth 20000 in
theorem ggX6_checksum_X6_ofStock : GoodIn wsX6_checksum wsX6_ofStock := goodIn_r _ [22, 3, 4, 18, 2, 23, 24, 25, 26, 27, 28, 29, 30, 31, 8, 32, 33, 34, 35, 36, 37, 38, 51, 52, 53, 54, 55, 56, 57, 58, 59, 60, 61, 62, 63] (by decide +kernel) (by decide +kernel)
set_option maxRecDepth 20000 in
theorem gX6_checksum_X6_ofStock : GoodIn wsX6_checksum (wsV RX6 123 RX6 yX6_ofStock wsX6_ofStock) := goodIn_app (goodIn_of _ (by decide +kernel)) ggX6_checksum_X6_ofStock
set_option maxRecDepth 20000 in
theorem ggX6_checksum_X6_ofTrip : GoodIn wsX6_checksum wsX6_ofTrip := goodIn_r _ [42, 3, 18, 43, 44, 4, 45, 46, 47, 48, 49, 26, 50, 37, 28, 51, 52, 53, 54, 55, 56, 57, 58, 59, 60, 61, 62, 63] (by decide +kernel) (by decide +kernel)
set_option maxRecDepth 20000 in
theorem gX6_checksum_X6_ofTrip : GoodIn wsX6_checksum (wsV RX6 126 RX6 yX6_ofTrip wsX6_ofTrip) := goodIn_app (goodIn_of _ (by decide +kernel)) ggX6_checksum_X6_ofTrip
theorem dX6_checksum_0 : decode cX6_checksum 0 = .ok (.lconst 0, 1) := by decide +kernel
theorem dX6_checksum_1 : decode cX6_checksum 1 = .ok (.lstore_n 1, 1) := by decide +kernel
theorem dX6_checksum_2 : decode cX6_checksum 2 = .ok (.iconst 0, 1) := by decide +kernel
theorem dX6_checksum_3 : decode cX6_checksum 3 = .ok (.istore_n 3, 1) := by decide +kernel
theorem dX6_checksum_4 : decode cX6_checksum 4 = .ok (.iload_n 3, 1) := by decide +kernel
theorem dX6_checksum_5 : decode cX6_checksum 5 = .ok (.bipush 10, 2) := by decide +kernel
theorem dX6_checksum_7 : decode cX6_checksum 7 = .ok (.if_icmp .ge 22, 3) := by decide +kernel
theorem dX6_checksum_10 : decode cX6_checksum 10 = .ok (.ldc2_w 118, 3) := by decide +kernel
theorem dX6_checksum_13 : decode cX6_checksum 13 = .ok (.lload_n 1, 1) := by decide +kernel
theorem dX6_checksum_14 : decode cX6_checksum 14 = .ok (.lmul, 1) := by decide +kernel
theorem dX6_checksum_15 : decode cX6_checksum 15 = .ok (.aload_n 0, 1) := by decide +kernel
theorem dX6_checksum_16 : decode cX6_checksum 16 = .ok (.iload_n 3, 1) := by decide +kernel
theorem dX6_checksum_17 : decode cX6_checksum 17 = .ok (.invokevirtual 120, 3) := by decide +kernel
theorem dX6_checksum_20 : decode cX6_checksum 20 = .ok (.i2l, 1) := by decide +kernel
theorem dX6_checksum_21 : decode cX6_checksum 21 = .ok (.ladd, 1) := by decide +kernel
theorem dX6_checksum_22 : decode cX6_checksum 22 = .ok (.lstore_n 1, 1) := by decide +kernel
theorem dX6_checksum_23 : decode cX6_checksum 23 = .ok (.iinc 3 1, 3) := by decide +kernel
theorem dX6_checksum_26 : decode cX6_checksum 26 = .ok (.goto (-22), 3) := by decide +kernel
theorem dX6_checksum_29 : decode cX6_checksum 29 = .ok (.iconst 0, 1) := by decide +kernel
theorem dX6_checksum_30 : decode cX6_checksum 30 = .ok (.istore_n 3, 1) := by decide +kernel
theorem dX6_checksum_31 : decode cX6_checksum 31 = .ok (.iload_n 3, 1) := by decide +kernel
theorem dX6_checksum_32 : decode cX6_checksum 32 = .ok (.aload_n 0, 1) := by decide +kernel
theorem dX6_checksum_33 : decode cX6_checksum 33 = .ok (.getfield 18, 3) := by decide +kernel
theorem dX6_checksum_36 : decode cX6_checksum 36 = .ok (.arraylength, 1) := by decide +kernel
theorem dX6_checksum_37 : decode cX6_checksum 37 = .ok (.if_icmp .ge 40, 3) := by decide +kernel
theorem dX6_checksum_40 : decode cX6_checksum 40 = .ok (.iconst 0, 1) := by decide +kernel
theorem dX6_checksum_41 : decode cX6_checksum 41 = .ok (.istore 4, 2) := by decide +kernel
theorem dX6_checksum_43 : decode cX6_checksum 43 = .ok (.iload 4, 2) := by decide +kernel
theorem dX6_checksum_45 : decode cX6_checksum 45 = .ok (.bipush 6, 2) := by decide +kernel
theorem dX6_checksum_47 : decode cX6_checksum 47 = .ok (.if_icmp .ge 24, 3) := by decide +kernel
theorem dX6_checksum_50 : decode cX6_checksum 50 = .ok (.ldc2_w 118, 3) := by decide +kernel
theorem dX6_checksum_53 : decode cX6_checksum 53 = .ok (.lload_n 1, 1) := by decide +kernel
theorem dX6_checksum_54 : decode cX6_checksum 54 = .ok (.lmul, 1) := by decide +kernel
theorem dX6_checksum_55 : decode cX6_checksum 55 = .ok (.aload_n 0, 1) := by decide +kernel
theorem dX6_checksum_56 : decode cX6_checksum 56 = .ok (.iload_n 3, 1) := by decide +kernel
theorem dX6_checksum_57 : decode cX6_checksum 57 = .ok (.iload 4, 2) := by decide +kernel
theorem dX6_checksum_59 : decode cX6_checksum 59 = .ok (.invokevirtual 123, 3) := by decide +kernel
theorem dX6_checksum_62 : decode cX6_checksum 62 = .ok (.i2l, 1) := by decide +kernel
theorem dX6_checksum_63 : decode cX6_checksum 63 = .ok (.ladd, 1) := by decide +kernel
theorem dX6_checksum_64 : decode cX6_checksum 64 = .ok (.lstore_n 1, 1) := by decide +kernel
theorem dX6_checksum_65 : decode cX6_checksum 65 = .ok (.iinc 4 1, 3) := by decide +kernel
theorem dX6_checksum_68 : decode cX6_checksum 68 = .ok (.goto (-25), 3) := by decide +kernel
theorem dX6_checksum_71 : decode cX6_checksum 71 = .ok (.iinc 3 1, 3) := by decide +kernel
theorem dX6_checksum_74 : decode cX6_checksum 74 = .ok (.goto (-43), 3) := by decide +kernel
theorem dX6_checksum_77 : decode cX6_checksum 77 = .ok (.iconst 0, 1) := by decide +kernel
theorem dX6_checksum_78 : decode cX6_checksum 78 = .ok (.istore_n 3, 1) := by decide +kernel
theorem dX6_checksum_79 : decode cX6_checksum 79 = .ok (.iload_n 3, 1) := by decide +kernel
theorem dX6_checksum_80 : decode cX6_checksum 80 = .ok (.aload_n 0, 1) := by decide +kernel
theorem dX6_checksum_81 : decode cX6_checksum 81 = .ok (.getfield 24, 3) := by decide +kernel
theorem dX6_checksum_84 : decode cX6_checksum 84 = .ok (.arraylength, 1) := by decide +kernel
theorem dX6_checksum_85 : decode cX6_checksum 85 = .ok (.if_icmp .ge 112, 3) := by decide +kernel
theorem dX6_checksum_88 : decode cX6_checksum 88 = .ok (.iconst 0, 1) := by decide +kernel
theorem dX6_checksum_89 : decode cX6_checksum 89 = .ok (.istore 4, 2) := by decide +kernel
theorem dX6_checksum_91 : decode cX6_checksum 91 = .ok (.iload 4, 2) := by decide +kernel
theorem dX6_checksum_93 : decode cX6_checksum 93 = .ok (.bipush 7, 2) := by decide +kernel
theorem dX6_checksum_95 : decode cX6_checksum 95 = .ok (.if_icmp .ge 24, 3) := by decide +kernel
theorem dX6_checksum_98 : decode cX6_checksum 98 = .ok (.ldc2_w 118, 3) := by decide +kernel
theorem dX6_checksum_101 : decode cX6_checksum 101 = .ok (.lload_n 1, 1) := by decide +kernel
theorem dX6_checksum_102 : decode cX6_checksum 102 = .ok (.lmul, 1) := by decide +kernel
theorem dX6_checksum_103 : decode cX6_checksum 103 = .ok (.aload_n 0, 1) := by decide +kernel
theorem dX6_checksum_104 : decode cX6_checksum 104 = .ok (.iload_n 3, 1) := by decide +kernel
theorem dX6_checksum_105 : decode cX6_checksum 105 = .ok (.iload 4, 2) := by decide +kernel
theorem dX6_checksum_107 : decode cX6_checksum 107 = .ok (.invokevirtual 126, 3) := by decide +kernel
theorem dX6_checksum_110 : decode cX6_checksum 110 = .ok (.i2l, 1) := by decide +kernel
theorem dX6_checksum_111 : decode cX6_checksum 111 = .ok (.ladd, 1) := by decide +kernel
theorem dX6_checksum_112 : decode cX6_checksum 112 = .ok (.lstore_n 1, 1) := by decide +kernel
theorem dX6_checksum_113 : decode cX6_checksum 113 = .ok (.iinc 4 1, 3) := by decide +kernel
theorem dX6_checksum_116 : decode cX6_checksum 116 = .ok (.goto (-25), 3) := by decide +kernel
theorem dX6_checksum_119 : decode cX6_checksum 119 = .ok (.aload_n 0, 1) := by decide +kernel
theorem dX6_checksum_120 : decode cX6_checksum 120 = .ok (.getfield 24, 3) := by decide +kernel
theorem dX6_checksum_123 : decode cX6_checksum 123 = .ok (.iload_n 3, 1) := by decide +kernel
theorem dX6_checksum_124 : decode cX6_checksum 124 = .ok (.aaload, 1) := by decide +kernel
theorem dX6_checksum_125 : decode cX6_checksum 125 = .ok (.getfield 54, 3) := by decide +kernel
theorem dX6_checksum_128 : decode cX6_checksum 128 = .ok (.astore 4, 2) := by decide +kernel
theorem dX6_checksum_130 : decode cX6_checksum 130 = .ok (.aload 4, 2) := by decide +kernel
theorem dX6_checksum_132 : decode cX6_checksum 132 = .ok (.arraylength, 1) := by decide +kernel
theorem dX6_checksum_133 : decode cX6_checksum 133 = .ok (.istore 5, 2) := by decide +kernel
theorem dX6_checksum_135 : decode cX6_checksum 135 = .ok (.iconst 0, 1) := by decide +kernel
theorem dX6_checksum_136 : decode cX6_checksum 136 = .ok (.istore 6, 2) := by decide +kernel
theorem dX6_checksum_138 : decode cX6_checksum 138 = .ok (.iload 6, 2) := by decide +kernel
theorem dX6_checksum_140 : decode cX6_checksum 140 = .ok (.iload 5, 2) := by decide +kernel
theorem dX6_checksum_142 : decode cX6_checksum 142 = .ok (.if_icmp .ge 49, 3) := by decide +kernel
theorem dX6_checksum_145 : decode cX6_checksum 145 = .ok (.aload 4, 2) := by decide +kernel
theorem dX6_checksum_147 : decode cX6_checksum 147 = .ok (.iload 6, 2) := by decide +kernel
theorem dX6_checksum_149 : decode cX6_checksum 149 = .ok (.aaload, 1) := by decide +kernel
theorem dX6_checksum_150 : decode cX6_checksum 150 = .ok (.astore 7, 2) := by decide +kernel
theorem dX6_checksum_152 : decode cX6_checksum 152 = .ok (.ldc2_w 118, 3) := by decide +kernel
theorem dX6_checksum_155 : decode cX6_checksum 155 = .ok (.ldc2_w 118, 3) := by decide +kernel
theorem dX6_checksum_158 : decode cX6_checksum 158 = .ok (.ldc2_w 118, 3) := by decide +kernel
theorem dX6_checksum_161 : decode cX6_checksum 161 = .ok (.lload_n 1, 1) := by decide +kernel
theorem dX6_checksum_162 : decode cX6_checksum 162 = .ok (.lmul, 1) := by decide +kernel
theorem dX6_checksum_163 : decode cX6_checksum 163 = .ok (.aload 7, 2) := by decide +kernel
theorem dX6_checksum_165 : decode cX6_checksum 165 = .ok (.iconst 4, 1) := by decide +kernel
theorem dX6_checksum_166 : decode cX6_checksum 166 = .ok (.iaload, 1) := by decide +kernel
theorem dX6_checksum_167 : decode cX6_checksum 167 = .ok (.i2l, 1) := by decide +kernel
theorem dX6_checksum_168 : decode cX6_checksum 168 = .ok (.ladd, 1) := by decide +kernel
theorem dX6_checksum_169 : decode cX6_checksum 169 = .ok (.lmul, 1) := by decide +kernel
theorem dX6_checksum_170 : decode cX6_checksum 170 = .ok (.aload 7, 2) := by decide +kernel
theorem dX6_checksum_172 : decode cX6_checksum 172 = .ok (.iconst 5, 1) := by decide +kernel
theorem dX6_checksum_173 : decode cX6_checksum 173 = .ok (.iaload, 1) := by decide +kernel
theorem dX6_checksum_174 : decode cX6_checksum 174 = .ok (.i2l, 1) := by decide +kernel
theorem dX6_checksum_175 : decode cX6_checksum 175 = .ok (.ladd, 1) := by decide +kernel
theorem dX6_checksum_176 : decode cX6_checksum 176 = .ok (.lmul, 1) := by decide +kernel
theorem dX6_checksum_177 : decode cX6_checksum 177 = .ok (.aload 7, 2) := by decide +kernel
theorem dX6_checksum_179 : decode cX6_checksum 179 = .ok (.bipush 6, 2) := by decide +kernel
theorem dX6_checksum_181 : decode cX6_checksum 181 = .ok (.iaload, 1) := by decide +kernel
theorem dX6_checksum_182 : decode cX6_checksum 182 = .ok (.i2l, 1) := by decide +kernel
theorem dX6_checksum_183 : decode cX6_checksum 183 = .ok (.ladd, 1) := by decide +kernel
theorem dX6_checksum_184 : decode cX6_checksum 184 = .ok (.lstore_n 1, 1) := by decide +kernel
theorem dX6_checksum_185 : decode cX6_checksum 185 = .ok (.iinc 6 1, 3) := by decide +kernel
theorem dX6_checksum_188 : decode cX6_checksum 188 = .ok (.goto (-50), 3) := by decide +kernel
theorem dX6_checksum_191 : decode cX6_checksum 191 = .ok (.iinc 3 1, 3) := by decide +kernel
theorem dX6_checksum_194 : decode cX6_checksum 194 = .ok (.goto (-115), 3) := by decide +kernel
theorem dX6_checksum_197 : decode cX6_checksum 197 = .ok (.lload_n 1, 1) := by decide +kernel
theorem dX6_checksum_198 : decode cX6_checksum 198 = .ok (.lreturn, 1) := by decide +kernel
