set_option maxRecDepth 20000 in
theorem ggX3_init_X0_init : GoodIn wsX3_init wsX0_init := goodIn_r _ [19, 20, 2, 3, 21, 22, 23, 24, 25, 26, 27, 28, 29, 30, 31, 32, 33, 34, 35, 36, 37, 38, 64, 65, 66, 67, 68, 69, 70, 71, 72, 73, 74, 75, 76, 77, 78, 79, 80] (by decide +kernel) (by decide +kernel)
set_option maxRecDepth 20000 in
theorem gX3_init_X0_init_n31 : GoodIn wsX3_init (wsX0_init) := ggX3_init_X0_init
set_option maxRecDepth 20000 in
theorem ggX3_init_X2_init : GoodIn wsX3_init wsX2_init := goodIn_r _ [41, 42, 2, 3, 43, 44, 24, 45, 46, 47, 48, 49, 50, 51, 52, 53, 54, 55, 56, 81, 82, 83, 84, 85, 86, 87, 88, 89, 90, 91, 92, 93, 94] (by decide +kernel) (by decide +kernel)
set_option maxRecDepth 20000 in
theorem gX3_init_X2_init : GoodIn wsX3_init (wsX2_init) := ggX3_init_X2_init
theorem dX3_init_0 : decode cX3_init 0 = .ok (.aload_n 0, 1) := by decide +kernel
theorem dX3_init_1 : decode cX3_init 1 = .ok (.invokespecial 1, 3) := by decide +kernel
theorem dX3_init_4 : decode cX3_init 4 = .ok (.aload_n 0, 1) := by decide +kernel
theorem dX3_init_5 : decode cX3_init 5 = .ok (.sipush 700, 3) := by decide +kernel
theorem dX3_init_8 : decode cX3_init 8 = .ok (.newarray .byte, 2) := by decide +kernel
theorem dX3_init_10 : decode cX3_init 10 = .ok (.putfield 9, 3) := by decide +kernel
theorem dX3_init_13 : decode cX3_init 13 = .ok (.aload_n 0, 1) := by decide +kernel
theorem dX3_init_14 : decode cX3_init 14 = .ok (.iconst 0, 1) := by decide +kernel
theorem dX3_init_15 : decode cX3_init 15 = .ok (.putfield 13, 3) := by decide +kernel
theorem dX3_init_18 : decode cX3_init 18 = .ok (.aload_n 0, 1) := by decide +kernel
theorem dX3_init_19 : decode cX3_init 19 = .ok (.iconst (-1), 1) := by decide +kernel
theorem dX3_init_20 : decode cX3_init 20 = .ok (.putfield 17, 3) := by decide +kernel
theorem dX3_init_23 : decode cX3_init 23 = .ok (.aload_n 0, 1) := by decide +kernel
theorem dX3_init_24 : decode cX3_init 24 = .ok (.bipush 8, 2) := by decide +kernel
theorem dX3_init_26 : decode cX3_init 26 = .ok (.anewarray 20, 3) := by decide +kernel
theorem dX3_init_29 : decode cX3_init 29 = .ok (.putfield 22, 3) := by decide +kernel
theorem dX3_init_32 : decode cX3_init 32 = .ok (.aload_n 0, 1) := by decide +kernel
theorem dX3_init_33 : decode cX3_init 33 = .ok (.iconst 0, 1) := by decide +kernel
theorem dX3_init_34 : decode cX3_init 34 = .ok (.putfield 26, 3) := by decide +kernel
theorem dX3_init_37 : decode cX3_init 37 = .ok (.new 29, 3) := by decide +kernel
theorem dX3_init_40 : decode cX3_init 40 = .ok (.dup, 1) := by decide +kernel
theorem dX3_init_41 : decode cX3_init 41 = .ok (.invokespecial 31, 3) := by decide +kernel
theorem dX3_init_44 : decode cX3_init 44 = .ok (.astore_n 1, 1) := by decide +kernel
theorem dX3_init_45 : decode cX3_init 45 = .ok (.aload_n 0, 1) := by decide +kernel
theorem dX3_init_46 : decode cX3_init 46 = .ok (.new 20, 3) := by decide +kernel
theorem dX3_init_49 : decode cX3_init 49 = .ok (.dup, 1) := by decide +kernel
theorem dX3_init_50 : decode cX3_init 50 = .ok (.aload_n 1, 1) := by decide +kernel
theorem dX3_init_51 : decode cX3_init 51 = .ok (.invokespecial 32, 3) := by decide +kernel
theorem dX3_init_54 : decode cX3_init 54 = .ok (.putfield 35, 3) := by decide +kernel
theorem dX3_init_57 : decode cX3_init 57 = .ok (.aload_n 0, 1) := by decide +kernel
theorem dX3_init_58 : decode cX3_init 58 = .ok (.new 20, 3) := by decide +kernel
theorem dX3_init_61 : decode cX3_init 61 = .ok (.dup, 1) := by decide +kernel
theorem dX3_init_62 : decode cX3_init 62 = .ok (.aload_n 1, 1) := by decide +kernel
theorem dX3_init_63 : decode cX3_init 63 = .ok (.invokespecial 32, 3) := by decide +kernel
theorem dX3_init_66 : decode cX3_init 66 = .ok (.putfield 39, 3) := by decide +kernel
theorem dX3_init_69 : decode cX3_init 69 = .ok (.iconst 0, 1) := by decide +kernel
theorem dX3_init_70 : decode cX3_init 70 = .ok (.istore_n 2, 1) := by decide +kernel
theorem dX3_init_71 : decode cX3_init 71 = .ok (.iload_n 2, 1) := by decide +kernel
theorem dX3_init_72 : decode cX3_init 72 = .ok (.aload_n 0, 1) := by decide +kernel
theorem dX3_init_73 : decode cX3_init 73 = .ok (.getfield 22, 3) := by decide +kernel
theorem dX3_init_76 : decode cX3_init 76 = .ok (.arraylength, 1) := by decide +kernel
theorem dX3_init_77 : decode cX3_init 77 = .ok (.if_icmp .ge 23, 3) := by decide +kernel
theorem dX3_init_80 : decode cX3_init 80 = .ok (.aload_n 0, 1) := by decide +kernel
theorem dX3_init_81 : decode cX3_init 81 = .ok (.getfield 22, 3) := by decide +kernel
theorem dX3_init_84 : decode cX3_init 84 = .ok (.iload_n 2, 1) := by decide +kernel
theorem dX3_init_85 : decode cX3_init 85 = .ok (.new 20, 3) := by decide +kernel
theorem dX3_init_88 : decode cX3_init 88 = .ok (.dup, 1) := by decide +kernel
theorem dX3_init_89 : decode cX3_init 89 = .ok (.aload_n 1, 1) := by decide +kernel
theorem dX3_init_90 : decode cX3_init 90 = .ok (.invokespecial 32, 3) := by decide +kernel
theorem dX3_init_93 : decode cX3_init 93 = .ok (.aastore, 1) := by decide +kernel
theorem dX3_init_94 : decode cX3_init 94 = .ok (.iinc 2 1, 3) := by decide +kernel
theorem dX3_init_97 : decode cX3_init 97 = .ok (.goto (-26), 3) := by decide +kernel
theorem dX3_init_100 : decode cX3_init 100 = .ok (.return_, 1) := by decide +kernel
set_option maxRecDepth 20000 in
theorem ggX3_append_X3_putWord : GoodIn wsX3_append wsX3_putWord := goodIn_r _ [6, 7, 1, 8, 9, 10, 11, 12, 13, 14] (by decide +kernel) (by decide +kernel)
set_option maxRecDepth 20000 in
theorem gX3_append_X3_putWord : GoodIn wsX3_append (wsV RX3 42 RX3 yX3_putWord wsX3_putWord) := goodIn_app (goodIn_of _ (by decide +kernel)) ggX3_append_X3_putWord
theorem dX3_append_0 : decode cX3_append 0 = .ok (.aload_n 0, 1) := by decide +kernel
theorem dX3_append_1 : decode cX3_append 1 = .ok (.getfield 13, 3) := by decide +kernel
theorem dX3_append_4 : decode cX3_append 4 = .ok (.bipush 20, 2) := by decide +kernel
theorem dX3_append_6 : decode cX3_append 6 = .ok (.iadd, 1) := by decide +kernel
theorem dX3_append_7 : decode cX3_append 7 = .ok (.sipush 700, 3) := by decide +kernel
theorem dX3_append_10 : decode cX3_append 10 = .ok (.if_icmp .le 5, 3) := by decide +kernel
theorem dX3_append_13 : decode cX3_append 13 = .ok (.iconst (-1), 1) := by decide +kernel
theorem dX3_append_14 : decode cX3_append 14 = .ok (.ireturn, 1) := by decide +kernel
theorem dX3_append_15 : decode cX3_append 15 = .ok (.aload_n 0, 1) := by decide +kernel
theorem dX3_append_16 : decode cX3_append 16 = .ok (.iload_n 1, 1) := by decide +kernel
theorem dX3_append_17 : decode cX3_append 17 = .ok (.invokevirtual 42, 3) := by decide +kernel
theorem dX3_append_20 : decode cX3_append 20 = .ok (.aload_n 0, 1) := by decide +kernel
theorem dX3_append_21 : decode cX3_append 21 = .ok (.iload_n 2, 1) := by decide +kernel
theorem dX3_append_22 : decode cX3_append 22 = .ok (.invokevirtual 42, 3) := by decide +kernel
theorem dX3_append_25 : decode cX3_append 25 = .ok (.aload_n 0, 1) := by decide +kernel
theorem dX3_append_26 : decode cX3_append 26 = .ok (.iload_n 3, 1) := by decide +kernel
theorem dX3_append_27 : decode cX3_append 27 = .ok (.invokevirtual 42, 3) := by decide +kernel
theorem dX3_append_30 : decode cX3_append 30 = .ok (.aload_n 0, 1) := by decide +kernel
theorem dX3_append_31 : decode cX3_append 31 = .ok (.iload 4, 2) := by decide +kernel
theorem dX3_append_33 : decode cX3_append 33 = .ok (.invokevirtual 42, 3) := by decide +kernel
theorem dX3_append_36 : decode cX3_append 36 = .ok (.aload_n 0, 1) := by decide +kernel
theorem dX3_append_37 : decode cX3_append 37 = .ok (.iload 5, 2) := by decide +kernel
theorem dX3_append_39 : decode cX3_append 39 = .ok (.invokevirtual 42, 3) := by decide +kernel
theorem dX3_append_42 : decode cX3_append 42 = .ok (.aload_n 0, 1) := by decide +kernel
theorem dX3_append_43 : decode cX3_append 43 = .ok (.getfield 13, 3) := by decide +kernel
theorem dX3_append_46 : decode cX3_append 46 = .ok (.ireturn, 1) := by decide +kernel
set_option maxRecDepth 20000 in
theorem ggX3_load_X1_init : GoodIn wsX3_load wsX1_init := goodIn_r _ [17, 18, 19, 20, 21, 22, 23, 24, 25, 26, 27, 28, 29, 30, 31, 32, 33, 34, 35, 36, 37, 38, 39, 40, 41, 42, 43, 44, 45, 46, 47, 48, 49, 50, 51, 52, 53, 54, 55, 56, 57, 58, 59, 60, 61, 62, 265, 266, 267, 268, 269, 270, 271, 272, 273, 274, 275, 276, 277, 278, 279, 280, 281, 240, 241, 242, 243, 244, 245, 246, 247, 248, 249, 250] (by decide +kernel) (by decide +kernel)
set_option maxRecDepth 20000 in
theorem gX3_load_X1_init : GoodIn wsX3_load (wsX1_init) := ggX3_load_X1_init
set_option maxRecDepth 20000 in
theorem ggX3_load_X1_readSetup : GoodIn wsX3_load wsX1_readSetup := goodIn_r _ [66, 41, 25, 29, 27, 24, 67, 28, 68, 30, 69, 70, 71, 6, 72, 31, 32, 73, 33, 34, 35, 36, 37, 74, 75, 76, 77, 78, 79, 80, 81, 82, 83, 84, 85, 86, 87, 88, 89, 90, 91, 92, 93, 94, 95, 96, 97, 98, 99, 100, 101, 102, 103, 104, 105, 106, 107, 108, 109, 110, 111, 112, 113, 114, 115, 116, 117, 118, 119, 120, 121, 122, 123, 124, 125, 126, 127, 128, 129, 130, 131, 132, 133, 134, 135, 136, 137, 138, 139, 140, 141, 142, 26, 143, 144, 145, 146, 147, 148, 149, 150, 151, 152, 153, 23, 154, 47, 155, 156, 157, 158, 159, 160, 161, 162, 49, 50, 163, 164, 165, 166, 167, 168, 169, 170, 171, 51, 172, 173, 174, 175, 52, 54, 56, 55, 176, 177, 178, 179, 180, 181, 182, 183, 184, 185, 186, 187, 188, 189, 57, 58, 59, 60, 61, 62, 53, 190, 240, 241, 242, 243, 244, 245, 246, 247, 248, 249, 250, 265, 266, 267, 268, 269, 270, 271, 272, 273, 274, 275, 276, 277, 278, 279, 280, 281] (by decide +kernel) (by decide +kernel)
set_option maxRecDepth 20000 in
theorem gX3_load_X1_readSetup : GoodIn wsX3_load (wsV RX3 58 RX1 yX1_readSetup wsX1_readSetup) := goodIn_app (goodIn_of _ (by decide +kernel)) ggX3_load_X1_readSetup
set_option maxRecDepth 20000 in
theorem ggX3_load_X3_remember : GoodIn wsX3_load wsX3_remember := goodIn_r _ [195, 196, 197, 11, 198, 199, 200, 201, 202, 203, 204, 205, 206, 207, 208, 209, 210, 211, 212, 213, 214, 215, 216, 217, 218, 219, 220, 221, 222, 223, 224, 225, 233, 234, 235, 236, 237, 238, 239, 251, 252, 253, 254, 255, 256, 257, 258, 259, 260, 261, 262, 263, 264] (by decide +kernel) (by decide +kernel)
set_option maxRecDepth 20000 in
theorem gX3_load_X3_remember : GoodIn wsX3_load (wsV RX3 67 RX3 yX3_remember wsX3_remember) := goodIn_app (goodIn_of _ (by decide +kernel)) ggX3_load_X3_remember
set_option maxRecDepth 20000 in
theorem ggX3_load_X2_begin : GoodIn wsX3_load wsX2_begin := goodIn_r _ [229, 203, 204, 205, 230, 206, 207, 208, 209, 210, 213, 214, 215, 216, 217, 231, 218, 232, 219, 220, 221, 222, 223, 224, 225, 251, 252, 253, 254, 255, 256, 257, 258, 259, 260, 261, 262, 263, 264, 265, 266, 267, 268, 269, 270, 271, 272, 273, 274, 275, 276, 277, 278, 279, 280, 281] (by decide +kernel) (by decide +kernel)
set_option maxRecDepth 20000 in
theorem gX3_load_X2_begin : GoodIn wsX3_load (wsV RX3 74 RX2 yX2_begin wsX2_begin) := goodIn_app (goodIn_of _ (by decide +kernel)) ggX3_load_X2_begin
theorem dX3_load_0 : decode cX3_load 0 = .ok (.iload_n 1, 1) := by decide +kernel
theorem dX3_load_1 : decode cX3_load 1 = .ok (.ifCond .lt 11, 3) := by decide +kernel
theorem dX3_load_4 : decode cX3_load 4 = .ok (.iload_n 1, 1) := by decide +kernel
theorem dX3_load_5 : decode cX3_load 5 = .ok (.aload_n 0, 1) := by decide +kernel
theorem dX3_load_6 : decode cX3_load 6 = .ok (.getfield 13, 3) := by decide +kernel
theorem dX3_load_9 : decode cX3_load 9 = .ok (.if_icmp .le 13, 3) := by decide +kernel
theorem dX3_load_12 : decode cX3_load 12 = .ok (.new 46, 3) := by decide +kernel
theorem dX3_load_15 : decode cX3_load 15 = .ok (.dup, 1) := by decide +kernel
theorem dX3_load_16 : decode cX3_load 16 = .ok (.ldc 48, 2) := by decide +kernel
theorem dX3_load_18 : decode cX3_load 18 = .ok (.invokespecial 50, 3) := by decide +kernel
theorem dX3_load_21 : decode cX3_load 21 = .ok (.athrow, 1) := by decide +kernel
theorem dX3_load_22 : decode cX3_load 22 = .ok (.new 53, 3) := by decide +kernel
theorem dX3_load_25 : decode cX3_load 25 = .ok (.dup, 1) := by decide +kernel
theorem dX3_load_26 : decode cX3_load 26 = .ok (.aload_n 0, 1) := by decide +kernel
theorem dX3_load_27 : decode cX3_load 27 = .ok (.getfield 9, 3) := by decide +kernel
theorem dX3_load_30 : decode cX3_load 30 = .ok (.iload_n 1, 1) := by decide +kernel
theorem dX3_load_31 : decode cX3_load 31 = .ok (.invokespecial 55, 3) := by decide +kernel
theorem dX3_load_34 : decode cX3_load 34 = .ok (.astore_n 2, 1) := by decide +kernel
theorem dX3_load_35 : decode cX3_load 35 = .ok (.aload_n 2, 1) := by decide +kernel
theorem dX3_load_36 : decode cX3_load 36 = .ok (.invokevirtual 58, 3) := by decide +kernel
theorem dX3_load_39 : decode cX3_load 39 = .ok (.aload_n 0, 1) := by decide +kernel
theorem dX3_load_40 : decode cX3_load 40 = .ok (.iconst 0, 1) := by decide +kernel
theorem dX3_load_41 : decode cX3_load 41 = .ok (.putfield 13, 3) := by decide +kernel
theorem dX3_load_44 : decode cX3_load 44 = .ok (.aload_n 0, 1) := by decide +kernel
theorem dX3_load_45 : decode cX3_load 45 = .ok (.aload_n 2, 1) := by decide +kernel
theorem dX3_load_46 : decode cX3_load 46 = .ok (.getfield 61, 3) := by decide +kernel
theorem dX3_load_49 : decode cX3_load 49 = .ok (.putfield 17, 3) := by decide +kernel
theorem dX3_load_52 : decode cX3_load 52 = .ok (.aload_n 2, 1) := by decide +kernel
theorem dX3_load_53 : decode cX3_load 53 = .ok (.getfield 64, 3) := by decide +kernel
theorem dX3_load_56 : decode cX3_load 56 = .ok (.ifCond .eq 8, 3) := by decide +kernel
theorem dX3_load_59 : decode cX3_load 59 = .ok (.aload_n 2, 1) := by decide +kernel
theorem dX3_load_60 : decode cX3_load 60 = .ok (.getfield 64, 3) := by decide +kernel
theorem dX3_load_63 : decode cX3_load 63 = .ok (.ireturn, 1) := by decide +kernel
theorem dX3_load_64 : decode cX3_load 64 = .ok (.aload_n 0, 1) := by decide +kernel
theorem dX3_load_65 : decode cX3_load 65 = .ok (.invokevirtual 67, 3) := by decide +kernel
theorem dX3_load_68 : decode cX3_load 68 = .ok (.aload_n 0, 1) := by decide +kernel
theorem dX3_load_69 : decode cX3_load 69 = .ok (.getfield 35, 3) := by decide +kernel
theorem dX3_load_72 : decode cX3_load 72 = .ok (.aload_n 2, 1) := by decide +kernel
theorem dX3_load_73 : decode cX3_load 73 = .ok (.getfield 70, 3) := by decide +kernel
theorem dX3_load_76 : decode cX3_load 76 = .ok (.invokevirtual 74, 3) := by decide +kernel
theorem dX3_load_79 : decode cX3_load 79 = .ok (.aload_n 0, 1) := by decide +kernel
theorem dX3_load_80 : decode cX3_load 80 = .ok (.getfield 35, 3) := by decide +kernel
theorem dX3_load_83 : decode cX3_load 83 = .ok (.getfield 77, 3) := by decide +kernel
theorem dX3_load_86 : decode cX3_load 86 = .ok (.getfield 78, 3) := by decide +kernel
theorem dX3_load_89 : decode cX3_load 89 = .ok (.ireturn, 1) := by decide +kernel
theorem dX3_errorOffset_0 : decode cX3_errorOffset 0 = .ok (.aload_n 0, 1) := by decide +kernel
theorem dX3_errorOffset_1 : decode cX3_errorOffset 1 = .ok (.getfield 17, 3) := by decide +kernel
theorem dX3_errorOffset_4 : decode cX3_errorOffset 4 = .ok (.ireturn, 1) := by decide +kernel
set_option maxRecDepth 20000 in
theorem ggX3_state_X3_checkWhat : GoodIn wsX3_state wsX3_checkWhat := goodIn_ca (goodIn_r _ [5, 6, 7] (by decide +kernel) (by decide +kernel)) (goodIn_sub (fun _ h => List.mem_cons_of_mem _ (List.mem_append_right _ h)) (by decide +kernel))
set_option maxRecDepth 20000 in
theorem gX3_state_X3_checkWhat : GoodIn wsX3_state (va_wsS RX3 81 yX3_checkWhat wsX3_checkWhat) := goodIn_app (goodIn_of _ (by decide +kernel)) ggX3_state_X3_checkWhat
set_option maxRecDepth 20000 in
theorem ggX3_state_X2_numberOfAll : GoodIn wsX3_state wsX2_numberOfAll := goodIn_r _ [12, 13, 14, 15, 16, 17, 18, 19, 20, 21, 22, 23, 11, 24, 25, 33, 34, 35, 36, 37, 38, 39, 40, 41, 42, 43, 44, 45, 46, 47, 48, 49, 50, 51, 52, 53, 54, 55, 56, 57, 58, 59, 60, 61, 62, 63] (by decide +kernel) (by decide +kernel)
set_option maxRecDepth 20000 in
theorem gX3_state_X2_numberOfAll : GoodIn wsX3_state (wsV RX3 85 RX2 yX2_numberOfAll wsX2_numberOfAll) := goodIn_app (goodIn_of _ (by decide +kernel)) ggX3_state_X2_numberOfAll
theorem dX3_state_0 : decode cX3_state 0 = .ok (.iload_n 1, 1) := by decide +kernel
theorem dX3_state_1 : decode cX3_state 1 = .ok (.bipush 10, 2) := by decide +kernel
theorem dX3_state_3 : decode cX3_state 3 = .ok (.invokestatic 81, 3) := by decide +kernel
theorem dX3_state_6 : decode cX3_state 6 = .ok (.aload_n 0, 1) := by decide +kernel
theorem dX3_state_7 : decode cX3_state 7 = .ok (.getfield 35, 3) := by decide +kernel
theorem dX3_state_10 : decode cX3_state 10 = .ok (.iload_n 1, 1) := by decide +kernel
theorem dX3_state_11 : decode cX3_state 11 = .ok (.invokevirtual 85, 3) := by decide +kernel
theorem dX3_state_14 : decode cX3_state 14 = .ok (.ireturn, 1) := by decide +kernel
set_option maxRecDepth 20000 in
theorem ggX3_stock_X3_checkStock : GoodIn wsX3_stock wsX3_checkStock := goodIn_ca (goodIn_r _ [6, 7, 8, 1, 9, 10, 56, 57, 58, 59, 60, 61, 62, 63, 64, 65, 66, 67, 68, 69, 70, 71, 72, 73, 74, 75, 76, 77, 78, 79, 80, 81, 82, 83, 84, 85, 86, 87, 88, 89, 90, 91, 92, 93] (by decide +kernel) (by decide +kernel)) (goodIn_sub (fun _ h => List.mem_cons_of_mem _ (List.mem_append_left _ (List.mem_append_right _ h))) (by decide +kernel))
set_option maxRecDepth 20000 in
theorem gX3_stock_X3_checkStock : GoodIn wsX3_stock (wsV RX3 89 RX3 yX3_checkStock wsX3_checkStock) := goodIn_app (goodIn_of _ (by decide +kernel)) ggX3_stock_X3_checkStock
set_option maxRecDepth 20000 in
theorem ggX3_stock_X3_checkWhat : GoodIn wsX3_stock wsX3_checkWhat := goodIn_ca (goodIn_r _ [13, 14, 15] (by decide +kernel) (by decide +kernel)) (goodIn_sub (fun _ h => List.mem_cons_of_mem _ (List.mem_append_right _ h)) (by decide +kernel))
set_option maxRecDepth 20000 in
theorem gX3_stock_X3_checkWhat : GoodIn wsX3_stock (va_wsS RX3 81 yX3_checkWhat wsX3_checkWhat) := goodIn_app (goodIn_of _ (by decide +kernel)) ggX3_stock_X3_checkWhat
set_option maxRecDepth 20000 in
theorem ggX3_stock_X2_numberOfStock : GoodIn wsX3_stock wsX2_numberOfStock := goodIn_r _ [20, 21, 22, 23, 24, 25, 26, 19, 27, 28, 29, 30, 31, 32, 33, 34, 35, 36, 37, 38, 39, 40, 41, 42, 43, 44, 45, 46, 47, 48, 49, 50, 51, 52, 53, 54, 55, 63, 64, 65, 66, 67, 68, 69, 70, 71, 72, 73, 74, 75, 76, 77, 78, 79, 80, 81, 82, 83, 84, 85, 86, 87, 88, 89, 90, 91, 92, 93] (by decide +kernel) (by decide +kernel)
set_option maxRecDepth 20000 in
theorem gX3_stock_X2_numberOfStock : GoodIn wsX3_stock (wsV RX3 92 RX2 yX2_numberOfStock wsX2_numberOfStock) := goodIn_app (goodIn_of _ (by decide +kernel)) ggX3_stock_X2_numberOfStock
theorem dX3_stock_0 : decode cX3_stock 0 = .ok (.aload_n 0, 1) := by decide +kernel
theorem dX3_stock_1 : decode cX3_stock 1 = .ok (.iload_n 1, 1) := by decide +kernel
theorem dX3_stock_2 : decode cX3_stock 2 = .ok (.invokevirtual 89, 3) := by decide +kernel
theorem dX3_stock_5 : decode cX3_stock 5 = .ok (.iload_n 2, 1) := by decide +kernel
theorem dX3_stock_6 : decode cX3_stock 6 = .ok (.bipush 6, 2) := by decide +kernel
theorem dX3_stock_8 : decode cX3_stock 8 = .ok (.invokestatic 81, 3) := by decide +kernel
theorem dX3_stock_11 : decode cX3_stock 11 = .ok (.aload_n 0, 1) := by decide +kernel
theorem dX3_stock_12 : decode cX3_stock 12 = .ok (.getfield 35, 3) := by decide +kernel
theorem dX3_stock_15 : decode cX3_stock 15 = .ok (.iload_n 1, 1) := by decide +kernel
theorem dX3_stock_16 : decode cX3_stock 16 = .ok (.iload_n 2, 1) := by decide +kernel
theorem dX3_stock_17 : decode cX3_stock 17 = .ok (.invokevirtual 92, 3) := by decide +kernel
theorem dX3_stock_20 : decode cX3_stock 20 = .ok (.ireturn, 1) := by decide +kernel
set_option maxRecDepth 20000 in
theorem ggX3_journey_X3_checkJourney : GoodIn wsX3_journey wsX3_checkJourney := goodIn_ca (goodIn_r _ [6, 7, 8, 1, 9, 10, 50, 51, 52, 53, 54, 55, 56, 57, 58, 59, 60, 61, 62, 63, 64, 65, 66, 67, 68, 69, 70, 71, 72, 73, 74, 75, 76, 77, 78, 79, 80, 81, 82, 83, 84, 85, 86, 87] (by decide +kernel) (by decide +kernel)) (goodIn_sub (fun _ h => List.mem_cons_of_mem _ (List.mem_append_left _ (List.mem_append_right _ h))) (by decide +kernel))
set_option maxRecDepth 20000 in
theorem gX3_journey_X3_checkJourney : GoodIn wsX3_journey (wsV RX3 96 RX3 yX3_checkJourney wsX3_checkJourney) := goodIn_app (goodIn_of _ (by decide +kernel)) ggX3_journey_X3_checkJourney
set_option maxRecDepth 20000 in
theorem ggX3_journey_X3_checkWhat : GoodIn wsX3_journey wsX3_checkWhat := goodIn_ca (goodIn_r _ [13, 14, 15] (by decide +kernel) (by decide +kernel)) (goodIn_sub (fun _ h => List.mem_cons_of_mem _ (List.mem_append_right _ h)) (by decide +kernel))
set_option maxRecDepth 20000 in
theorem gX3_journey_X3_checkWhat : GoodIn wsX3_journey (va_wsS RX3 81 yX3_checkWhat wsX3_checkWhat) := goodIn_app (goodIn_of _ (by decide +kernel)) ggX3_journey_X3_checkWhat
set_option maxRecDepth 20000 in
theorem ggX3_journey_X2_numberOfJourney : GoodIn wsX3_journey wsX2_numberOfJourney := goodIn_r _ [20, 21, 22, 23, 24, 25, 26, 27, 28, 29, 30, 31, 32, 33, 34, 35, 36, 19, 37, 38, 39, 40, 41, 42, 43, 44, 45, 46, 47, 48, 49, 57, 58, 59, 60, 61, 62, 63, 64, 65, 66, 67, 68, 69, 70, 71, 72, 73, 74, 75, 76, 77, 78, 79, 80, 81, 82, 83, 84, 85, 86, 87] (by decide +kernel) (by decide +kernel)
set_option maxRecDepth 20000 in
theorem gX3_journey_X2_numberOfJourney : GoodIn wsX3_journey (wsV RX3 99 RX2 yX2_numberOfJourney wsX2_numberOfJourney) := goodIn_app (goodIn_of _ (by decide +kernel)) ggX3_journey_X2_numberOfJourney
theorem dX3_journey_0 : decode cX3_journey 0 = .ok (.aload_n 0, 1) := by decide +kernel
theorem dX3_journey_1 : decode cX3_journey 1 = .ok (.iload_n 1, 1) := by decide +kernel
theorem dX3_journey_2 : decode cX3_journey 2 = .ok (.invokevirtual 96, 3) := by decide +kernel
theorem dX3_journey_5 : decode cX3_journey 5 = .ok (.iload_n 2, 1) := by decide +kernel
theorem dX3_journey_6 : decode cX3_journey 6 = .ok (.bipush 7, 2) := by decide +kernel
theorem dX3_journey_8 : decode cX3_journey 8 = .ok (.invokestatic 81, 3) := by decide +kernel
theorem dX3_journey_11 : decode cX3_journey 11 = .ok (.aload_n 0, 1) := by decide +kernel
theorem dX3_journey_12 : decode cX3_journey 12 = .ok (.getfield 35, 3) := by decide +kernel
theorem dX3_journey_15 : decode cX3_journey 15 = .ok (.iload_n 1, 1) := by decide +kernel
theorem dX3_journey_16 : decode cX3_journey 16 = .ok (.iload_n 2, 1) := by decide +kernel
theorem dX3_journey_17 : decode cX3_journey 17 = .ok (.invokevirtual 99, 3) := by decide +kernel
theorem dX3_journey_20 : decode cX3_journey 20 = .ok (.ireturn, 1) := by decide +kernel
set_option maxRecDepth 20000 in
theorem ggX3_step_X3_checkJourney : GoodIn wsX3_step wsX3_checkJourney := goodIn_ca (goodIn_r _ [10, 11, 12, 3, 4, 13, 39, 40, 41, 42, 43, 44, 45, 46, 47, 48, 49, 50, 51, 52, 53, 54, 55, 56, 57, 58, 59, 60, 61, 62, 63, 64, 65, 66, 67, 68, 69, 70, 71, 72, 73, 74, 75, 76] (by decide +kernel) (by decide +kernel)) (goodIn_sub (fun _ h => List.mem_cons_of_mem _ (List.mem_append_left _ (List.mem_append_right _ h))) (by decide +kernel))
set_option maxRecDepth 20000 in
theorem gX3_step_X3_checkJourney : GoodIn wsX3_step (wsV RX3 96 RX3 yX3_checkJourney wsX3_checkJourney) := goodIn_app (goodIn_of _ (by decide +kernel)) ggX3_step_X3_checkJourney
set_option maxRecDepth 20000 in
theorem ggX3_step_X0_stepsOf : GoodIn wsX3_step wsX0_stepsOf := goodIn_r _ [18, 19, 20, 60, 61, 62, 63, 64, 65, 66, 67, 68, 69, 70, 71, 72, 73, 74, 75, 76] (by decide +kernel) (by decide +kernel)
set_option maxRecDepth 20000 in
theorem gX3_step_X0_stepsOf : GoodIn wsX3_step (wsV RX3 102 RX0 yX0_stepsOf wsX0_stepsOf) := goodIn_app (goodIn_of _ (by decide +kernel)) ggX3_step_X0_stepsOf
set_option maxRecDepth 20000 in
theorem ggX3_step_X3_checkWhat : GoodIn wsX3_step wsX3_checkWhat := goodIn_ca (goodIn_r _ [23, 24, 25] (by decide +kernel) (by decide +kernel)) (goodIn_sub (fun _ h => List.mem_cons_of_mem _ (List.mem_append_right _ h)) (by decide +kernel))
set_option maxRecDepth 20000 in
theorem gX3_step_X3_checkWhat : GoodIn wsX3_step (va_wsS RX3 81 yX3_checkWhat wsX3_checkWhat) := goodIn_app (goodIn_of _ (by decide +kernel)) ggX3_step_X3_checkWhat
set_option maxRecDepth 20000 in
theorem ggX3_step_X2_numberOfStep : GoodIn wsX3_step wsX2_numberOfStep := goodIn_r _ [30, 31, 32, 33, 34, 35, 36, 37, 38, 46, 47, 48, 49, 50, 51, 52, 53, 54, 55, 56, 57, 58, 59, 60, 61, 62, 63, 64, 65, 66, 67, 68, 69, 70, 71, 72, 73, 74, 75, 76] (by decide +kernel) (by decide +kernel)
set_option maxRecDepth 20000 in
theorem gX3_step_X2_numberOfStep : GoodIn wsX3_step (wsV RX3 114 RX2 yX2_numberOfStep wsX2_numberOfStep) := goodIn_app (goodIn_of _ (by decide +kernel)) ggX3_step_X2_numberOfStep
theorem dX3_step_0 : decode cX3_step 0 = .ok (.aload_n 0, 1) := by decide +kernel
theorem dX3_step_1 : decode cX3_step 1 = .ok (.iload_n 1, 1) := by decide +kernel
theorem dX3_step_2 : decode cX3_step 2 = .ok (.invokevirtual 96, 3) := by decide +kernel
theorem dX3_step_5 : decode cX3_step 5 = .ok (.iload_n 2, 1) := by decide +kernel
theorem dX3_step_6 : decode cX3_step 6 = .ok (.ifCond .lt 18, 3) := by decide +kernel
theorem dX3_step_9 : decode cX3_step 9 = .ok (.iload_n 2, 1) := by decide +kernel
theorem dX3_step_10 : decode cX3_step 10 = .ok (.aload_n 0, 1) := by decide +kernel
theorem dX3_step_11 : decode cX3_step 11 = .ok (.getfield 35, 3) := by decide +kernel
theorem dX3_step_14 : decode cX3_step 14 = .ok (.getfield 77, 3) := by decide +kernel
theorem dX3_step_17 : decode cX3_step 17 = .ok (.iload_n 1, 1) := by decide +kernel
theorem dX3_step_18 : decode cX3_step 18 = .ok (.invokevirtual 102, 3) := by decide +kernel
theorem dX3_step_21 : decode cX3_step 21 = .ok (.if_icmp .lt 13, 3) := by decide +kernel
theorem dX3_step_24 : decode cX3_step 24 = .ok (.new 105, 3) := by decide +kernel
theorem dX3_step_27 : decode cX3_step 27 = .ok (.dup, 1) := by decide +kernel
theorem dX3_step_28 : decode cX3_step 28 = .ok (.ldc 107, 2) := by decide +kernel
theorem dX3_step_30 : decode cX3_step 30 = .ok (.invokespecial 109, 3) := by decide +kernel
theorem dX3_step_33 : decode cX3_step 33 = .ok (.athrow, 1) := by decide +kernel
theorem dX3_step_34 : decode cX3_step 34 = .ok (.iload_n 3, 1) := by decide +kernel
theorem dX3_step_35 : decode cX3_step 35 = .ok (.bipush 7, 2) := by decide +kernel
theorem dX3_step_37 : decode cX3_step 37 = .ok (.invokestatic 81, 3) := by decide +kernel
theorem dX3_step_40 : decode cX3_step 40 = .ok (.aload_n 0, 1) := by decide +kernel
theorem dX3_step_41 : decode cX3_step 41 = .ok (.getfield 35, 3) := by decide +kernel
theorem dX3_step_44 : decode cX3_step 44 = .ok (.aload_n 0, 1) := by decide +kernel
theorem dX3_step_45 : decode cX3_step 45 = .ok (.getfield 35, 3) := by decide +kernel
theorem dX3_step_48 : decode cX3_step 48 = .ok (.getfield 77, 3) := by decide +kernel
theorem dX3_step_51 : decode cX3_step 51 = .ok (.getfield 110, 3) := by decide +kernel
theorem dX3_step_54 : decode cX3_step 54 = .ok (.iload_n 1, 1) := by decide +kernel
theorem dX3_step_55 : decode cX3_step 55 = .ok (.iaload, 1) := by decide +kernel
theorem dX3_step_56 : decode cX3_step 56 = .ok (.iload_n 2, 1) := by decide +kernel
theorem dX3_step_57 : decode cX3_step 57 = .ok (.iadd, 1) := by decide +kernel
theorem dX3_step_58 : decode cX3_step 58 = .ok (.iload_n 3, 1) := by decide +kernel
theorem dX3_step_59 : decode cX3_step 59 = .ok (.invokevirtual 114, 3) := by decide +kernel
theorem dX3_step_62 : decode cX3_step 62 = .ok (.ireturn, 1) := by decide +kernel
set_option maxRecDepth 20000 in
theorem ggX3_owed_X3_checkJourney : GoodIn wsX3_owed wsX3_checkJourney := goodIn_ca (goodIn_r _ [10, 11, 12, 3, 4, 13, 23, 24, 25, 26, 27, 28, 29, 30, 31, 32, 33, 34, 35, 36, 37, 38, 39, 40, 41, 42, 43, 44, 45, 46, 47, 48, 49, 50, 51, 52, 53, 54, 55, 56, 57, 58, 59, 60] (by decide +kernel) (by decide +kernel)) (goodIn_sub (fun _ h => List.mem_cons_of_mem _ (List.mem_append_right _ h)) (by decide +kernel))
set_option maxRecDepth 20000 in
theorem gX3_owed_X3_checkJourney : GoodIn wsX3_owed (wsV RX3 96 RX3 yX3_checkJourney wsX3_checkJourney) := goodIn_app (goodIn_of _ (by decide +kernel)) ggX3_owed_X3_checkJourney
set_option maxRecDepth 20000 in
theorem ggX3_owed_X2_doneStepFromBehind : GoodIn wsX3_owed wsX2_doneStepFromBehind := goodIn_r _ [18, 19, 20, 21, 22, 30, 31, 32, 33, 34, 35, 36, 37, 38, 39, 40, 41, 42, 43, 44, 45, 46, 47, 48, 49, 50, 51, 52, 53, 54, 55, 56, 57, 58, 59, 60] (by decide +kernel) (by decide +kernel)
set_option maxRecDepth 20000 in
theorem gX3_owed_X2_doneStepFromBehind : GoodIn wsX3_owed (wsV RX3 117 RX2 yX2_doneStepFromBehind wsX2_doneStepFromBehind) := goodIn_app (goodIn_of _ (by decide +kernel)) ggX3_owed_X2_doneStepFromBehind
theorem dX3_owed_0 : decode cX3_owed 0 = .ok (.aload_n 0, 1) := by decide +kernel
theorem dX3_owed_1 : decode cX3_owed 1 = .ok (.iload_n 1, 1) := by decide +kernel
theorem dX3_owed_2 : decode cX3_owed 2 = .ok (.invokevirtual 96, 3) := by decide +kernel
theorem dX3_owed_5 : decode cX3_owed 5 = .ok (.iload_n 2, 1) := by decide +kernel
theorem dX3_owed_6 : decode cX3_owed 6 = .ok (.ifCond .ge 7, 3) := by decide +kernel
theorem dX3_owed_9 : decode cX3_owed 9 = .ok (.iconst (-1), 1) := by decide +kernel
theorem dX3_owed_10 : decode cX3_owed 10 = .ok (.goto 12, 3) := by decide +kernel
theorem dX3_owed_13 : decode cX3_owed 13 = .ok (.aload_n 0, 1) := by decide +kernel
theorem dX3_owed_14 : decode cX3_owed 14 = .ok (.getfield 35, 3) := by decide +kernel
theorem dX3_owed_17 : decode cX3_owed 17 = .ok (.iload_n 1, 1) := by decide +kernel
theorem dX3_owed_18 : decode cX3_owed 18 = .ok (.iload_n 2, 1) := by decide +kernel
theorem dX3_owed_19 : decode cX3_owed 19 = .ok (.invokevirtual 117, 3) := by decide +kernel
theorem dX3_owed_22 : decode cX3_owed 22 = .ok (.istore_n 3, 1) := by decide +kernel
theorem dX3_owed_23 : decode cX3_owed 23 = .ok (.iload_n 3, 1) := by decide +kernel
theorem dX3_owed_24 : decode cX3_owed 24 = .ok (.ifCond .ge 13, 3) := by decide +kernel
theorem dX3_owed_27 : decode cX3_owed 27 = .ok (.new 105, 3) := by decide +kernel
theorem dX3_owed_30 : decode cX3_owed 30 = .ok (.dup, 1) := by decide +kernel
theorem dX3_owed_31 : decode cX3_owed 31 = .ok (.ldc 120, 2) := by decide +kernel
theorem dX3_owed_33 : decode cX3_owed 33 = .ok (.invokespecial 109, 3) := by decide +kernel
theorem dX3_owed_36 : decode cX3_owed 36 = .ok (.athrow, 1) := by decide +kernel
theorem dX3_owed_37 : decode cX3_owed 37 = .ok (.iload_n 3, 1) := by decide +kernel
theorem dX3_owed_38 : decode cX3_owed 38 = .ok (.aload_n 0, 1) := by decide +kernel
theorem dX3_owed_39 : decode cX3_owed 39 = .ok (.getfield 35, 3) := by decide +kernel
theorem dX3_owed_42 : decode cX3_owed 42 = .ok (.getfield 77, 3) := by decide +kernel
theorem dX3_owed_45 : decode cX3_owed 45 = .ok (.getfield 110, 3) := by decide +kernel
theorem dX3_owed_48 : decode cX3_owed 48 = .ok (.iload_n 1, 1) := by decide +kernel
theorem dX3_owed_49 : decode cX3_owed 49 = .ok (.iaload, 1) := by decide +kernel
theorem dX3_owed_50 : decode cX3_owed 50 = .ok (.isub, 1) := by decide +kernel
theorem dX3_owed_51 : decode cX3_owed 51 = .ok (.ireturn, 1) := by decide +kernel
set_option maxRecDepth 20000 in
theorem ggX3_restsIn_X3_checkJourney : GoodIn wsX3_restsIn wsX3_checkJourney := goodIn_ca (goodIn_r _ [8, 9, 10, 2, 11, 12, 153, 154, 155, 156, 157, 158, 159, 160, 161, 162, 163, 164, 165, 166, 167, 168, 169, 170, 171, 172, 173, 174, 175, 176, 177, 178, 179, 180, 181, 182, 183, 184, 185, 186, 187, 188, 189, 190] (by decide +kernel) (by decide +kernel)) (goodIn_sub (fun _ h => List.mem_cons_of_mem _ (List.mem_append_right _ h)) (by decide +kernel))
set_option maxRecDepth 20000 in
theorem gX3_restsIn_X3_checkJourney : GoodIn wsX3_restsIn (wsV RX3 96 RX3 yX3_checkJourney wsX3_checkJourney) := goodIn_app (goodIn_of _ (by decide +kernel)) ggX3_restsIn_X3_checkJourney
set_option maxRecDepth 20000 in
theorem ggX3_restsIn_X2_copyFrom : GoodIn wsX3_restsIn wsX2_copyFrom := goodIn_r _ [17, 18, 19, 20, 21, 22, 23, 24, 25, 26, 27, 28, 29, 30, 31, 32, 33, 34, 35, 36, 37, 38, 39, 40, 160, 161, 162, 163, 164, 165, 166, 167, 168, 169, 170, 171, 172, 173] (by decide +kernel) (by decide +kernel)
set_option maxRecDepth 20000 in
theorem gX3_restsIn_X2_copyFrom : GoodIn wsX3_restsIn (wsV RX3 122 RX2 yX2_copyFrom wsX2_copyFrom) := goodIn_app (goodIn_of _ (by decide +kernel)) ggX3_restsIn_X2_copyFrom
set_option maxRecDepth 20000 in
theorem ggX3_restsIn_X2_passTicks : GoodIn wsX3_restsIn wsX2_passTicks := goodIn_r _ [44, 19, 45, 46, 47, 48, 49, 50, 51, 16, 52, 28, 53, 54, 55, 56, 57, 58, 59, 60, 27, 18, 61, 62, 63, 64, 65, 66, 67, 68, 69, 70, 71, 72, 73, 74, 75, 32, 35, 76, 77, 78, 79, 80, 81, 29, 82, 83, 84, 85, 86, 87, 88, 89, 90, 36, 91, 92, 93, 94, 30, 95, 96, 97, 98, 31, 99, 100, 101, 102, 103, 104, 105, 106, 107, 108, 109, 110, 111, 112, 113, 114, 115, 116, 117, 118, 119, 120, 121, 122, 21, 26, 34, 123, 124, 125, 126, 127, 128, 129, 130, 131, 132, 133, 134, 135, 136, 137, 138, 139, 140, 141, 142, 33, 20, 143, 144, 145, 146, 147, 148, 149, 150, 151, 160, 161, 162, 163, 164, 165, 166, 167, 168, 169, 170, 171, 172, 173, 174, 175, 176, 177, 178, 179, 180, 181, 182, 183, 184, 185, 186, 187, 188, 189, 190] (by decide +kernel) (by decide +kernel)
set_option maxRecDepth 20000 in
theorem gX3_restsIn_X2_passTicks : GoodIn wsX3_restsIn (wsV RX3 126 RX2 yX2_passTicks wsX2_passTicks) := goodIn_app (goodIn_of _ (by decide +kernel)) ggX3_restsIn_X2_passTicks
set_option maxRecDepth 20000 in
theorem ggX3_restsIn_X2_rests : GoodIn wsX3_restsIn wsX2_rests := goodIn_r _ [52, 28, 53, 54, 55, 16, 56, 160, 161, 162, 163, 164, 165, 166, 167, 168, 169, 170, 171, 172, 173] (by decide +kernel) (by decide +kernel)
set_option maxRecDepth 20000 in
theorem gX3_restsIn_X2_rests : GoodIn wsX3_restsIn (wsV RX3 129 RX2 yX2_rests wsX2_rests) := goodIn_app (goodIn_of _ (by decide +kernel)) ggX3_restsIn_X2_rests
theorem dX3_restsIn_0 : decode cX3_restsIn 0 = .ok (.aload_n 0, 1) := by decide +kernel
theorem dX3_restsIn_1 : decode cX3_restsIn 1 = .ok (.iload_n 1, 1) := by decide +kernel
theorem dX3_restsIn_2 : decode cX3_restsIn 2 = .ok (.invokevirtual 96, 3) := by decide +kernel
theorem dX3_restsIn_5 : decode cX3_restsIn 5 = .ok (.aload_n 0, 1) := by decide +kernel
theorem dX3_restsIn_6 : decode cX3_restsIn 6 = .ok (.getfield 39, 3) := by decide +kernel
theorem dX3_restsIn_9 : decode cX3_restsIn 9 = .ok (.aload_n 0, 1) := by decide +kernel
theorem dX3_restsIn_10 : decode cX3_restsIn 10 = .ok (.getfield 35, 3) := by decide +kernel
theorem dX3_restsIn_13 : decode cX3_restsIn 13 = .ok (.invokevirtual 122, 3) := by decide +kernel
theorem dX3_restsIn_16 : decode cX3_restsIn 16 = .ok (.aload_n 0, 1) := by decide +kernel
theorem dX3_restsIn_17 : decode cX3_restsIn 17 = .ok (.getfield 39, 3) := by decide +kernel
theorem dX3_restsIn_20 : decode cX3_restsIn 20 = .ok (.sipush 3000, 3) := by decide +kernel
theorem dX3_restsIn_23 : decode cX3_restsIn 23 = .ok (.iload_n 1, 1) := by decide +kernel
theorem dX3_restsIn_24 : decode cX3_restsIn 24 = .ok (.invokevirtual 126, 3) := by decide +kernel
theorem dX3_restsIn_27 : decode cX3_restsIn 27 = .ok (.aload_n 0, 1) := by decide +kernel
theorem dX3_restsIn_28 : decode cX3_restsIn 28 = .ok (.getfield 39, 3) := by decide +kernel
theorem dX3_restsIn_31 : decode cX3_restsIn 31 = .ok (.iload_n 1, 1) := by decide +kernel
theorem dX3_restsIn_32 : decode cX3_restsIn 32 = .ok (.invokevirtual 129, 3) := by decide +kernel
theorem dX3_restsIn_35 : decode cX3_restsIn 35 = .ok (.ifCond .eq 21, 3) := by decide +kernel
theorem dX3_restsIn_38 : decode cX3_restsIn 38 = .ok (.aload_n 0, 1) := by decide +kernel
theorem dX3_restsIn_39 : decode cX3_restsIn 39 = .ok (.getfield 39, 3) := by decide +kernel
theorem dX3_restsIn_42 : decode cX3_restsIn 42 = .ok (.getfield 133, 3) := by decide +kernel
theorem dX3_restsIn_45 : decode cX3_restsIn 45 = .ok (.aload_n 0, 1) := by decide +kernel
theorem dX3_restsIn_46 : decode cX3_restsIn 46 = .ok (.getfield 35, 3) := by decide +kernel
theorem dX3_restsIn_49 : decode cX3_restsIn 49 = .ok (.getfield 133, 3) := by decide +kernel
theorem dX3_restsIn_52 : decode cX3_restsIn 52 = .ok (.isub, 1) := by decide +kernel
theorem dX3_restsIn_53 : decode cX3_restsIn 53 = .ok (.goto 4, 3) := by decide +kernel
theorem dX3_restsIn_56 : decode cX3_restsIn 56 = .ok (.iconst (-1), 1) := by decide +kernel
theorem dX3_restsIn_57 : decode cX3_restsIn 57 = .ok (.ireturn, 1) := by decide +kernel
set_option maxRecDepth 20000 in
theorem ggX3_stateAfter_X3_checkJourney : GoodIn wsX3_stateAfter wsX3_checkJourney := goodIn_ca (goodIn_r _ [10, 11, 12, 4, 13, 14, 154, 155, 156, 157, 158, 159, 160, 161, 162, 163, 164, 165, 166, 167, 168, 169, 170, 171, 172, 173, 174, 175, 176, 177, 178, 179, 180, 181, 182, 183, 184, 185, 186, 187, 188, 189, 190, 191] (by decide +kernel) (by decide +kernel)) (goodIn_sub (fun _ h => List.mem_cons_of_mem _ (List.mem_append_right _ h)) (by decide +kernel))
set_option maxRecDepth 20000 in
theorem gX3_stateAfter_X3_checkJourney : GoodIn wsX3_stateAfter (wsV RX3 96 RX3 yX3_checkJourney wsX3_checkJourney) := goodIn_app (goodIn_of _ (by decide +kernel)) ggX3_stateAfter_X3_checkJourney
set_option maxRecDepth 20000 in
theorem ggX3_stateAfter_X2_copyFrom : GoodIn wsX3_stateAfter wsX2_copyFrom := goodIn_r _ [19, 20, 21, 22, 23, 24, 25, 26, 27, 28, 29, 30, 31, 32, 33, 34, 35, 36, 37, 38, 39, 40, 41, 42, 161, 162, 163, 164, 165, 166, 167, 168, 169, 170, 171, 172, 173, 174] (by decide +kernel) (by decide +kernel)
set_option maxRecDepth 20000 in
theorem gX3_stateAfter_X2_copyFrom : GoodIn wsX3_stateAfter (wsV RX3 122 RX2 yX2_copyFrom wsX2_copyFrom) := goodIn_app (goodIn_of _ (by decide +kernel)) ggX3_stateAfter_X2_copyFrom
set_option maxRecDepth 20000 in
theorem ggX3_stateAfter_X2_passTicks : GoodIn wsX3_stateAfter wsX2_passTicks := goodIn_r _ [46, 21, 47, 48, 49, 50, 51, 52, 53, 18, 54, 30, 55, 56, 57, 58, 59, 60, 61, 62, 29, 20, 63, 64, 65, 66, 67, 68, 69, 70, 71, 72, 73, 74, 75, 76, 77, 34, 37, 78, 79, 80, 81, 82, 83, 31, 84, 85, 86, 87, 88, 89, 90, 91, 92, 38, 93, 94, 95, 96, 32, 97, 98, 99, 100, 33, 101, 102, 103, 104, 105, 106, 107, 108, 109, 110, 111, 112, 113, 114, 115, 116, 117, 118, 119, 120, 121, 122, 123, 124, 23, 28, 36, 125, 126, 127, 128, 129, 130, 131, 132, 133, 134, 135, 136, 137, 138, 139, 140, 141, 142, 143, 144, 35, 22, 145, 146, 147, 148, 149, 150, 151, 152, 153, 161, 162, 163, 164, 165, 166, 167, 168, 169, 170, 171, 172, 173, 174, 175, 176, 177, 178, 179, 180, 181, 182, 183, 184, 185, 186, 187, 188, 189, 190, 191] (by decide +kernel) (by decide +kernel)
set_option maxRecDepth 20000 in
theorem gX3_stateAfter_X2_passTicks : GoodIn wsX3_stateAfter (wsV RX3 126 RX2 yX2_passTicks wsX2_passTicks) := goodIn_app (goodIn_of _ (by decide +kernel)) ggX3_stateAfter_X2_passTicks
theorem dX3_stateAfter_0 : decode cX3_stateAfter 0 = .ok (.aload_n 0, 1) := by decide +kernel
theorem dX3_stateAfter_1 : decode cX3_stateAfter 1 = .ok (.iload_n 1, 1) := by decide +kernel
theorem dX3_stateAfter_2 : decode cX3_stateAfter 2 = .ok (.invokevirtual 96, 3) := by decide +kernel
theorem dX3_stateAfter_5 : decode cX3_stateAfter 5 = .ok (.iload_n 2, 1) := by decide +kernel
theorem dX3_stateAfter_6 : decode cX3_stateAfter 6 = .ok (.ifCond .lt 10, 3) := by decide +kernel
theorem dX3_stateAfter_9 : decode cX3_stateAfter 9 = .ok (.iload_n 2, 1) := by decide +kernel
theorem dX3_stateAfter_10 : decode cX3_stateAfter 10 = .ok (.sipush 3000, 3) := by decide +kernel
theorem dX3_stateAfter_13 : decode cX3_stateAfter 13 = .ok (.if_icmp .le 13, 3) := by decide +kernel
theorem dX3_stateAfter_16 : decode cX3_stateAfter 16 = .ok (.new 46, 3) := by decide +kernel
theorem dX3_stateAfter_19 : decode cX3_stateAfter 19 = .ok (.dup, 1) := by decide +kernel
theorem dX3_stateAfter_20 : decode cX3_stateAfter 20 = .ok (.ldc 136, 2) := by decide +kernel
theorem dX3_stateAfter_22 : decode cX3_stateAfter 22 = .ok (.invokespecial 50, 3) := by decide +kernel
theorem dX3_stateAfter_25 : decode cX3_stateAfter 25 = .ok (.athrow, 1) := by decide +kernel
theorem dX3_stateAfter_26 : decode cX3_stateAfter 26 = .ok (.aload_n 0, 1) := by decide +kernel
theorem dX3_stateAfter_27 : decode cX3_stateAfter 27 = .ok (.getfield 39, 3) := by decide +kernel
theorem dX3_stateAfter_30 : decode cX3_stateAfter 30 = .ok (.aload_n 0, 1) := by decide +kernel
theorem dX3_stateAfter_31 : decode cX3_stateAfter 31 = .ok (.getfield 35, 3) := by decide +kernel
theorem dX3_stateAfter_34 : decode cX3_stateAfter 34 = .ok (.invokevirtual 122, 3) := by decide +kernel
theorem dX3_stateAfter_37 : decode cX3_stateAfter 37 = .ok (.aload_n 0, 1) := by decide +kernel
theorem dX3_stateAfter_38 : decode cX3_stateAfter 38 = .ok (.getfield 39, 3) := by decide +kernel
theorem dX3_stateAfter_41 : decode cX3_stateAfter 41 = .ok (.iload_n 2, 1) := by decide +kernel
theorem dX3_stateAfter_42 : decode cX3_stateAfter 42 = .ok (.iload_n 1, 1) := by decide +kernel
theorem dX3_stateAfter_43 : decode cX3_stateAfter 43 = .ok (.invokevirtual 126, 3) := by decide +kernel
theorem dX3_stateAfter_46 : decode cX3_stateAfter 46 = .ok (.aload_n 0, 1) := by decide +kernel
theorem dX3_stateAfter_47 : decode cX3_stateAfter 47 = .ok (.getfield 39, 3) := by decide +kernel
theorem dX3_stateAfter_50 : decode cX3_stateAfter 50 = .ok (.getfield 138, 3) := by decide +kernel
theorem dX3_stateAfter_53 : decode cX3_stateAfter 53 = .ok (.iload_n 1, 1) := by decide +kernel
theorem dX3_stateAfter_54 : decode cX3_stateAfter 54 = .ok (.iaload, 1) := by decide +kernel
theorem dX3_stateAfter_55 : decode cX3_stateAfter 55 = .ok (.ireturn, 1) := by decide +kernel
set_option maxRecDepth 20000 in
theorem ggX3_help_X3_checkJourney : GoodIn wsX3_help wsX3_checkJourney := goodIn_ca (goodIn_r _ [14, 15, 16, 2, 17, 18, 160, 161, 162, 163, 164, 165, 166, 167, 168, 169, 170, 171, 172, 173, 174, 175, 176, 177, 178, 179, 180, 181, 182, 183, 184, 185, 186, 187, 188, 189, 190, 191, 192, 193, 194, 195, 196, 197] (by decide +kernel) (by decide +kernel)) (goodIn_sub (fun _ h => List.mem_cons_of_mem _ (List.mem_append_right _ h)) (by decide +kernel))
set_option maxRecDepth 20000 in
theorem gX3_help_X3_checkJourney : GoodIn wsX3_help (wsV RX3 96 RX3 yX3_checkJourney wsX3_checkJourney) := goodIn_app (goodIn_of _ (by decide +kernel)) ggX3_help_X3_checkJourney
set_option maxRecDepth 20000 in
theorem ggX3_help_X3_checkStock : GoodIn wsX3_help wsX3_checkStock := goodIn_ca (goodIn_r _ [22, 15, 16, 2, 17, 23, 160, 161, 162, 163, 164, 165, 166, 167, 168, 169, 170, 171, 172, 173, 174, 175, 176, 177, 178, 179, 180, 181, 182, 183, 184, 185, 186, 187, 188, 189, 190, 191, 192, 193, 194, 195, 196, 197] (by decide +kernel) (by decide +kernel)) (goodIn_sub (fun _ h => List.mem_cons_of_mem _ (List.mem_append_right _ h)) (by decide +kernel))
set_option maxRecDepth 20000 in
theorem gX3_help_X3_checkStock : GoodIn wsX3_help (wsV RX3 89 RX3 yX3_checkStock wsX3_checkStock) := goodIn_app (goodIn_of _ (by decide +kernel)) ggX3_help_X3_checkStock
set_option maxRecDepth 20000 in
theorem ggX3_help_X2_copyFrom : GoodIn wsX3_help wsX2_copyFrom := goodIn_r _ [28, 29, 30, 31, 32, 33, 34, 35, 36, 37, 38, 39, 40, 41, 42, 43, 44, 45, 46, 47, 48, 49, 50, 51, 167, 168, 169, 170, 171, 172, 173, 174, 175, 176, 177, 178, 179, 180] (by decide +kernel) (by decide +kernel)
set_option maxRecDepth 20000 in
theorem gX3_help_X2_copyFrom : GoodIn wsX3_help (wsV RX3 122 RX2 yX2_copyFrom wsX2_copyFrom) := goodIn_app (goodIn_of _ (by decide +kernel)) ggX3_help_X2_copyFrom
set_option maxRecDepth 20000 in
theorem ggX3_help_X2_passTicks : GoodIn wsX3_help wsX2_passTicks := goodIn_r _ [55, 30, 56, 57, 8, 58, 59, 60, 61, 27, 62, 39, 63, 64, 65, 66, 67, 68, 69, 70, 38, 29, 71, 72, 7, 9, 73, 74, 75, 76, 77, 78, 79, 80, 81, 82, 83, 43, 46, 84, 85, 86, 87, 88, 89, 40, 90, 91, 92, 93, 94, 95, 96, 97, 98, 47, 99, 100, 101, 102, 41, 103, 104, 105, 106, 42, 107, 108, 109, 110, 111, 112, 113, 114, 115, 116, 117, 118, 119, 120, 121, 122, 123, 124, 125, 126, 127, 128, 129, 130, 32, 37, 45, 131, 132, 133, 134, 135, 136, 137, 138, 139, 140, 141, 142, 143, 144, 145, 146, 147, 148, 149, 150, 44, 31, 151, 152, 153, 154, 155, 156, 157, 158, 159, 167, 168, 169, 170, 171, 172, 173, 174, 175, 176, 177, 178, 179, 180, 181, 182, 183, 184, 185, 186, 187, 188, 189, 190, 191, 192, 193, 194, 195, 196, 197] (by decide +kernel) (by decide +kernel)
set_option maxRecDepth 20000 in
theorem gX3_help_X2_passTicks : GoodIn wsX3_help (wsV RX3 126 RX2 yX2_passTicks wsX2_passTicks) := goodIn_app (goodIn_of _ (by decide +kernel)) ggX3_help_X2_passTicks
theorem dX3_help_0 : decode cX3_help 0 = .ok (.aload_n 0, 1) := by decide +kernel
theorem dX3_help_1 : decode cX3_help 1 = .ok (.iload_n 1, 1) := by decide +kernel
theorem dX3_help_2 : decode cX3_help 2 = .ok (.invokevirtual 96, 3) := by decide +kernel
theorem dX3_help_5 : decode cX3_help 5 = .ok (.aload_n 0, 1) := by decide +kernel
theorem dX3_help_6 : decode cX3_help 6 = .ok (.iload_n 2, 1) := by decide +kernel
theorem dX3_help_7 : decode cX3_help 7 = .ok (.invokevirtual 89, 3) := by decide +kernel
theorem dX3_help_10 : decode cX3_help 10 = .ok (.iconst 0, 1) := by decide +kernel
theorem dX3_help_11 : decode cX3_help 11 = .ok (.istore_n 3, 1) := by decide +kernel
theorem dX3_help_12 : decode cX3_help 12 = .ok (.iload_n 3, 1) := by decide +kernel
theorem dX3_help_13 : decode cX3_help 13 = .ok (.sipush 999, 3) := by decide +kernel
theorem dX3_help_16 : decode cX3_help 16 = .ok (.if_icmp .gt 72, 3) := by decide +kernel
theorem dX3_help_19 : decode cX3_help 19 = .ok (.aload_n 0, 1) := by decide +kernel
theorem dX3_help_20 : decode cX3_help 20 = .ok (.getfield 39, 3) := by decide +kernel
theorem dX3_help_23 : decode cX3_help 23 = .ok (.aload_n 0, 1) := by decide +kernel
theorem dX3_help_24 : decode cX3_help 24 = .ok (.getfield 35, 3) := by decide +kernel
theorem dX3_help_27 : decode cX3_help 27 = .ok (.invokevirtual 122, 3) := by decide +kernel
theorem dX3_help_30 : decode cX3_help 30 = .ok (.aload_n 0, 1) := by decide +kernel
theorem dX3_help_31 : decode cX3_help 31 = .ok (.getfield 39, 3) := by decide +kernel
theorem dX3_help_34 : decode cX3_help 34 = .ok (.getfield 141, 3) := by decide +kernel
theorem dX3_help_37 : decode cX3_help 37 = .ok (.iload_n 2, 1) := by decide +kernel
theorem dX3_help_38 : decode cX3_help 38 = .ok (.dup2, 1) := by decide +kernel
theorem dX3_help_39 : decode cX3_help 39 = .ok (.iaload, 1) := by decide +kernel
theorem dX3_help_40 : decode cX3_help 40 = .ok (.iload_n 3, 1) := by decide +kernel
theorem dX3_help_41 : decode cX3_help 41 = .ok (.iadd, 1) := by decide +kernel
theorem dX3_help_42 : decode cX3_help 42 = .ok (.iastore, 1) := by decide +kernel
theorem dX3_help_43 : decode cX3_help 43 = .ok (.aload_n 0, 1) := by decide +kernel
theorem dX3_help_44 : decode cX3_help 44 = .ok (.getfield 39, 3) := by decide +kernel
theorem dX3_help_47 : decode cX3_help 47 = .ok (.sipush 1100, 3) := by decide +kernel
theorem dX3_help_50 : decode cX3_help 50 = .ok (.iload_n 1, 1) := by decide +kernel
theorem dX3_help_51 : decode cX3_help 51 = .ok (.invokevirtual 126, 3) := by decide +kernel
theorem dX3_help_54 : decode cX3_help 54 = .ok (.aload_n 0, 1) := by decide +kernel
theorem dX3_help_55 : decode cX3_help 55 = .ok (.getfield 39, 3) := by decide +kernel
theorem dX3_help_58 : decode cX3_help 58 = .ok (.getfield 138, 3) := by decide +kernel
theorem dX3_help_61 : decode cX3_help 61 = .ok (.iload_n 1, 1) := by decide +kernel
theorem dX3_help_62 : decode cX3_help 62 = .ok (.iaload, 1) := by decide +kernel
theorem dX3_help_63 : decode cX3_help 63 = .ok (.iconst 3, 1) := by decide +kernel
theorem dX3_help_64 : decode cX3_help 64 = .ok (.if_icmp .ne 5, 3) := by decide +kernel
theorem dX3_help_67 : decode cX3_help 67 = .ok (.iload_n 3, 1) := by decide +kernel
theorem dX3_help_68 : decode cX3_help 68 = .ok (.ireturn, 1) := by decide +kernel
theorem dX3_help_69 : decode cX3_help 69 = .ok (.iload_n 3, 1) := by decide +kernel
theorem dX3_help_70 : decode cX3_help 70 = .ok (.iconst 1, 1) := by decide +kernel
theorem dX3_help_71 : decode cX3_help 71 = .ok (.aload_n 0, 1) := by decide +kernel
theorem dX3_help_72 : decode cX3_help 72 = .ok (.getfield 39, 3) := by decide +kernel
theorem dX3_help_75 : decode cX3_help 75 = .ok (.getfield 144, 3) := by decide +kernel
theorem dX3_help_78 : decode cX3_help 78 = .ok (.iload_n 2, 1) := by decide +kernel
theorem dX3_help_79 : decode cX3_help 79 = .ok (.iaload, 1) := by decide +kernel
theorem dX3_help_80 : decode cX3_help 80 = .ok (.invokestatic 147, 3) := by decide +kernel
theorem dX3_help_83 : decode cX3_help 83 = .ok (.iadd, 1) := by decide +kernel
theorem dX3_help_84 : decode cX3_help 84 = .ok (.istore_n 3, 1) := by decide +kernel
theorem dX3_help_85 : decode cX3_help 85 = .ok (.goto (-73), 3) := by decide +kernel
theorem dX3_help_88 : decode cX3_help 88 = .ok (.iconst (-1), 1) := by decide +kernel
theorem dX3_help_89 : decode cX3_help 89 = .ok (.ireturn, 1) := by decide +kernel
set_option maxRecDepth 20000 in
theorem ggX3_pass_X3_remember : GoodIn wsX3_pass wsX3_remember := goodIn_r _ [9, 10, 11, 3, 12, 13, 14, 15, 16, 17, 18, 19, 20, 21, 22, 23, 24, 25, 26, 27, 28, 29, 30, 31, 32, 33, 34, 35, 36, 37, 38, 39, 159, 160, 161, 162, 163, 164, 165, 166, 167, 168, 169, 170, 171, 172, 173, 174, 175, 176, 177, 178, 179] (by decide +kernel) (by decide +kernel)
set_option maxRecDepth 20000 in
theorem gX3_pass_X3_remember : GoodIn wsX3_pass (wsV RX3 67 RX3 yX3_remember wsX3_remember) := goodIn_app (goodIn_of _ (by decide +kernel)) ggX3_pass_X3_remember
set_option maxRecDepth 20000 in
theorem ggX3_pass_X2_endedJourneys : GoodIn wsX3_pass wsX2_endedJourneys := goodIn_r _ [43, 44, 45, 46, 15, 47, 17, 48, 27, 166, 167, 168, 169, 170, 171, 172, 173, 174, 175, 176, 177, 178, 179, 180, 181, 182, 183, 184, 185, 186, 187, 188, 189, 190, 191, 192, 193, 194, 195, 196] (by decide +kernel) (by decide +kernel)
set_option maxRecDepth 20000 in
theorem gX3_pass_X2_endedJourneys : GoodIn wsX3_pass (wsV RX3 152 RX2 yX2_endedJourneys wsX2_endedJourneys) := goodIn_app (goodIn_of _ (by decide +kernel)) ggX3_pass_X2_endedJourneys
set_option maxRecDepth 20000 in
theorem ggX3_pass_X2_passTicks : GoodIn wsX3_pass wsX2_passTicks := goodIn_r _ [52, 18, 53, 54, 55, 56, 57, 58, 59, 15, 60, 27, 61, 62, 63, 64, 65, 66, 67, 68, 26, 17, 48, 69, 70, 71, 72, 73, 74, 75, 76, 77, 78, 79, 80, 81, 82, 31, 34, 83, 84, 85, 86, 87, 88, 28, 89, 90, 91, 92, 93, 94, 95, 96, 97, 35, 98, 99, 100, 101, 29, 102, 103, 104, 105, 30, 106, 107, 108, 109, 110, 111, 112, 113, 114, 115, 116, 117, 118, 119, 120, 121, 122, 123, 124, 125, 126, 127, 128, 129, 20, 25, 33, 130, 131, 132, 133, 134, 135, 136, 137, 138, 139, 140, 141, 142, 143, 144, 145, 146, 147, 148, 149, 32, 19, 150, 151, 152, 153, 154, 155, 156, 157, 158, 166, 167, 168, 169, 170, 171, 172, 173, 174, 175, 176, 177, 178, 179, 180, 181, 182, 183, 184, 185, 186, 187, 188, 189, 190, 191, 192, 193, 194, 195, 196] (by decide +kernel) (by decide +kernel)
set_option maxRecDepth 20000 in
theorem gX3_pass_X2_passTicks : GoodIn wsX3_pass (wsV RX3 126 RX2 yX2_passTicks wsX2_passTicks) := goodIn_app (goodIn_of _ (by decide +kernel)) ggX3_pass_X2_passTicks
theorem dX3_pass_0 : decode cX3_pass 0 = .ok (.iload_n 1, 1) := by decide +kernel
theorem dX3_pass_1 : decode cX3_pass 1 = .ok (.iconst 1, 1) := by decide +kernel
theorem dX3_pass_2 : decode cX3_pass 2 = .ok (.if_icmp .lt 25, 3) := by decide +kernel
theorem dX3_pass_5 : decode cX3_pass 5 = .ok (.iload_n 1, 1) := by decide +kernel
theorem dX3_pass_6 : decode cX3_pass 6 = .ok (.sipush 200, 3) := by decide +kernel
theorem dX3_pass_9 : decode cX3_pass 9 = .ok (.if_icmp .gt 18, 3) := by decide +kernel
theorem dX3_pass_12 : decode cX3_pass 12 = .ok (.aload_n 0, 1) := by decide +kernel
theorem dX3_pass_13 : decode cX3_pass 13 = .ok (.getfield 35, 3) := by decide +kernel
theorem dX3_pass_16 : decode cX3_pass 16 = .ok (.getfield 133, 3) := by decide +kernel
theorem dX3_pass_19 : decode cX3_pass 19 = .ok (.iload_n 1, 1) := by decide +kernel
theorem dX3_pass_20 : decode cX3_pass 20 = .ok (.iadd, 1) := by decide +kernel
theorem dX3_pass_21 : decode cX3_pass 21 = .ok (.sipush 9999, 3) := by decide +kernel
theorem dX3_pass_24 : decode cX3_pass 24 = .ok (.if_icmp .le 13, 3) := by decide +kernel
theorem dX3_pass_27 : decode cX3_pass 27 = .ok (.new 46, 3) := by decide +kernel
theorem dX3_pass_30 : decode cX3_pass 30 = .ok (.dup, 1) := by decide +kernel
theorem dX3_pass_31 : decode cX3_pass 31 = .ok (.ldc 136, 2) := by decide +kernel
theorem dX3_pass_33 : decode cX3_pass 33 = .ok (.invokespecial 50, 3) := by decide +kernel
theorem dX3_pass_36 : decode cX3_pass 36 = .ok (.athrow, 1) := by decide +kernel
theorem dX3_pass_37 : decode cX3_pass 37 = .ok (.aload_n 0, 1) := by decide +kernel
theorem dX3_pass_38 : decode cX3_pass 38 = .ok (.invokevirtual 67, 3) := by decide +kernel
theorem dX3_pass_41 : decode cX3_pass 41 = .ok (.aload_n 0, 1) := by decide +kernel
theorem dX3_pass_42 : decode cX3_pass 42 = .ok (.getfield 35, 3) := by decide +kernel
theorem dX3_pass_45 : decode cX3_pass 45 = .ok (.invokevirtual 152, 3) := by decide +kernel
theorem dX3_pass_48 : decode cX3_pass 48 = .ok (.istore_n 2, 1) := by decide +kernel
theorem dX3_pass_49 : decode cX3_pass 49 = .ok (.aload_n 0, 1) := by decide +kernel
theorem dX3_pass_50 : decode cX3_pass 50 = .ok (.getfield 35, 3) := by decide +kernel
theorem dX3_pass_53 : decode cX3_pass 53 = .ok (.iload_n 1, 1) := by decide +kernel
theorem dX3_pass_54 : decode cX3_pass 54 = .ok (.iconst (-1), 1) := by decide +kernel
theorem dX3_pass_55 : decode cX3_pass 55 = .ok (.invokevirtual 126, 3) := by decide +kernel
theorem dX3_pass_58 : decode cX3_pass 58 = .ok (.aload_n 0, 1) := by decide +kernel
theorem dX3_pass_59 : decode cX3_pass 59 = .ok (.getfield 35, 3) := by decide +kernel
theorem dX3_pass_62 : decode cX3_pass 62 = .ok (.invokevirtual 152, 3) := by decide +kernel
theorem dX3_pass_65 : decode cX3_pass 65 = .ok (.iload_n 2, 1) := by decide +kernel
theorem dX3_pass_66 : decode cX3_pass 66 = .ok (.isub, 1) := by decide +kernel
theorem dX3_pass_67 : decode cX3_pass 67 = .ok (.ireturn, 1) := by decide +kernel
set_option maxRecDepth 20000 in
theorem ggX3_settle_X3_checkJourney : GoodIn wsX3_settle wsX3_checkJourney := goodIn_ca (goodIn_r _ [6, 7, 8, 1, 9, 10, 68, 69, 70, 71, 72, 73, 74, 75, 76, 77, 78, 79, 80, 81, 82, 83, 84, 85, 86, 87, 88, 89, 90, 91, 92, 93, 94, 95, 96, 97, 98, 99, 100, 101, 102, 103, 104, 105] (by decide +kernel) (by decide +kernel)) (goodIn_sub (fun _ h => List.mem_cons_of_mem _ (List.mem_append_left _ (List.mem_append_right _ h))) (by decide +kernel))
set_option maxRecDepth 20000 in
theorem gX3_settle_X3_checkJourney : GoodIn wsX3_settle (wsV RX3 96 RX3 yX3_checkJourney wsX3_checkJourney) := goodIn_app (goodIn_of _ (by decide +kernel)) ggX3_settle_X3_checkJourney
set_option maxRecDepth 20000 in
theorem ggX3_settle_X3_checkParked : GoodIn wsX3_settle wsX3_checkParked := goodIn_ca (goodIn_r _ [14, 15, 16, 1, 17, 68, 69, 70, 71, 72, 73, 74, 75, 76, 77, 78, 79, 80, 81, 82, 83, 84, 85, 86, 87, 88] (by decide +kernel) (by decide +kernel)) (goodIn_sub (fun _ h => List.mem_cons_of_mem _ (List.mem_append_right _ h)) (by decide +kernel))
set_option maxRecDepth 20000 in
theorem gX3_settle_X3_checkParked : GoodIn wsX3_settle (wsV RX3 156 RX3 yX3_checkParked wsX3_checkParked) := goodIn_app (goodIn_of _ (by decide +kernel)) ggX3_settle_X3_checkParked
set_option maxRecDepth 20000 in
theorem ggX3_settle_X3_remember : GoodIn wsX3_settle wsX3_remember := goodIn_r _ [21, 22, 23, 1, 24, 25, 26, 27, 28, 29, 30, 31, 32, 33, 34, 35, 36, 37, 38, 39, 40, 41, 42, 43, 44, 45, 46, 47, 48, 49, 50, 51, 68, 69, 70, 71, 72, 73, 74, 75, 76, 77, 78, 79, 80, 81, 82, 83, 84, 85, 86, 87, 88] (by decide +kernel) (by decide +kernel)
set_option maxRecDepth 20000 in
theorem gX3_settle_X3_remember : GoodIn wsX3_settle (wsV RX3 67 RX3 yX3_remember wsX3_remember) := goodIn_app (goodIn_of _ (by decide +kernel)) ggX3_settle_X3_remember
set_option maxRecDepth 20000 in
theorem ggX3_settle_X2_putLastStepAway : GoodIn wsX3_settle wsX2_putLastStepAway := goodIn_r _ [55, 39, 29, 56, 57, 58, 59, 27, 60, 61, 43, 62, 63, 64, 65, 32, 66, 67, 42, 75, 76, 77, 78, 79, 80, 81, 82, 83, 84, 85, 86, 87, 88, 89, 90, 91, 92, 93, 94, 95, 96, 97, 98, 99, 100, 101, 102, 103, 104, 105] (by decide +kernel) (by decide +kernel)
set_option maxRecDepth 20000 in
theorem gX3_settle_X2_putLastStepAway : GoodIn wsX3_settle (wsV RX3 159 RX2 yX2_putLastStepAway wsX2_putLastStepAway) := goodIn_app (goodIn_of _ (by decide +kernel)) ggX3_settle_X2_putLastStepAway
theorem dX3_settle_0 : decode cX3_settle 0 = .ok (.aload_n 0, 1) := by decide +kernel
theorem dX3_settle_1 : decode cX3_settle 1 = .ok (.iload_n 1, 1) := by decide +kernel
theorem dX3_settle_2 : decode cX3_settle 2 = .ok (.invokevirtual 96, 3) := by decide +kernel
theorem dX3_settle_5 : decode cX3_settle 5 = .ok (.aload_n 0, 1) := by decide +kernel
theorem dX3_settle_6 : decode cX3_settle 6 = .ok (.iload_n 1, 1) := by decide +kernel
theorem dX3_settle_7 : decode cX3_settle 7 = .ok (.invokevirtual 156, 3) := by decide +kernel
theorem dX3_settle_10 : decode cX3_settle 10 = .ok (.aload_n 0, 1) := by decide +kernel
theorem dX3_settle_11 : decode cX3_settle 11 = .ok (.invokevirtual 67, 3) := by decide +kernel
theorem dX3_settle_14 : decode cX3_settle 14 = .ok (.aload_n 0, 1) := by decide +kernel
theorem dX3_settle_15 : decode cX3_settle 15 = .ok (.getfield 35, 3) := by decide +kernel
theorem dX3_settle_18 : decode cX3_settle 18 = .ok (.iload_n 1, 1) := by decide +kernel
theorem dX3_settle_19 : decode cX3_settle 19 = .ok (.iconst 5, 1) := by decide +kernel
theorem dX3_settle_20 : decode cX3_settle 20 = .ok (.invokevirtual 159, 3) := by decide +kernel
theorem dX3_settle_23 : decode cX3_settle 23 = .ok (.ireturn, 1) := by decide +kernel
set_option maxRecDepth 20000 in
theorem ggX3_writeOff_X3_checkJourney : GoodIn wsX3_writeOff wsX3_checkJourney := goodIn_ca (goodIn_r _ [6, 7, 8, 1, 9, 10, 68, 69, 70, 71, 72, 73, 74, 75, 76, 77, 78, 79, 80, 81, 82, 83, 84, 85, 86, 87, 88, 89, 90, 91, 92, 93, 94, 95, 96, 97, 98, 99, 100, 101, 102, 103, 104, 105] (by decide +kernel) (by decide +kernel)) (goodIn_sub (fun _ h => List.mem_cons_of_mem _ (List.mem_append_left _ (List.mem_append_right _ h))) (by decide +kernel))
set_option maxRecDepth 20000 in
theorem gX3_writeOff_X3_checkJourney : GoodIn wsX3_writeOff (wsV RX3 96 RX3 yX3_checkJourney wsX3_checkJourney) := goodIn_app (goodIn_of _ (by decide +kernel)) ggX3_writeOff_X3_checkJourney
set_option maxRecDepth 20000 in
theorem ggX3_writeOff_X3_checkParked : GoodIn wsX3_writeOff wsX3_checkParked := goodIn_ca (goodIn_r _ [14, 15, 16, 1, 17, 68, 69, 70, 71, 72, 73, 74, 75, 76, 77, 78, 79, 80, 81, 82, 83, 84, 85, 86, 87, 88] (by decide +kernel) (by decide +kernel)) (goodIn_sub (fun _ h => List.mem_cons_of_mem _ (List.mem_append_right _ h)) (by decide +kernel))
set_option maxRecDepth 20000 in
theorem gX3_writeOff_X3_checkParked : GoodIn wsX3_writeOff (wsV RX3 156 RX3 yX3_checkParked wsX3_checkParked) := goodIn_app (goodIn_of _ (by decide +kernel)) ggX3_writeOff_X3_checkParked
set_option maxRecDepth 20000 in
theorem ggX3_writeOff_X3_remember : GoodIn wsX3_writeOff wsX3_remember := goodIn_r _ [21, 22, 23, 1, 24, 25, 26, 27, 28, 29, 30, 31, 32, 33, 34, 35, 36, 37, 38, 39, 40, 41, 42, 43, 44, 45, 46, 47, 48, 49, 50, 51, 68, 69, 70, 71, 72, 73, 74, 75, 76, 77, 78, 79, 80, 81, 82, 83, 84, 85, 86, 87, 88] (by decide +kernel) (by decide +kernel)
set_option maxRecDepth 20000 in
theorem gX3_writeOff_X3_remember : GoodIn wsX3_writeOff (wsV RX3 67 RX3 yX3_remember wsX3_remember) := goodIn_app (goodIn_of _ (by decide +kernel)) ggX3_writeOff_X3_remember
set_option maxRecDepth 20000 in
theorem ggX3_writeOff_X2_putLastStepAway : GoodIn wsX3_writeOff wsX2_putLastStepAway := goodIn_r _ [55, 39, 29, 56, 57, 58, 59, 27, 60, 61, 43, 62, 63, 64, 65, 32, 66, 67, 42, 75, 76, 77, 78, 79, 80, 81, 82, 83, 84, 85, 86, 87, 88, 89, 90, 91, 92, 93, 94, 95, 96, 97, 98, 99, 100, 101, 102, 103, 104, 105] (by decide +kernel) (by decide +kernel)
set_option maxRecDepth 20000 in
theorem gX3_writeOff_X2_putLastStepAway : GoodIn wsX3_writeOff (wsV RX3 159 RX2 yX2_putLastStepAway wsX2_putLastStepAway) := goodIn_app (goodIn_of _ (by decide +kernel)) ggX3_writeOff_X2_putLastStepAway
theorem dX3_writeOff_0 : decode cX3_writeOff 0 = .ok (.aload_n 0, 1) := by decide +kernel
theorem dX3_writeOff_1 : decode cX3_writeOff 1 = .ok (.iload_n 1, 1) := by decide +kernel
theorem dX3_writeOff_2 : decode cX3_writeOff 2 = .ok (.invokevirtual 96, 3) := by decide +kernel
theorem dX3_writeOff_5 : decode cX3_writeOff 5 = .ok (.aload_n 0, 1) := by decide +kernel
theorem dX3_writeOff_6 : decode cX3_writeOff 6 = .ok (.iload_n 1, 1) := by decide +kernel
theorem dX3_writeOff_7 : decode cX3_writeOff 7 = .ok (.invokevirtual 156, 3) := by decide +kernel
theorem dX3_writeOff_10 : decode cX3_writeOff 10 = .ok (.aload_n 0, 1) := by decide +kernel
theorem dX3_writeOff_11 : decode cX3_writeOff 11 = .ok (.invokevirtual 67, 3) := by decide +kernel
theorem dX3_writeOff_14 : decode cX3_writeOff 14 = .ok (.aload_n 0, 1) := by decide +kernel
theorem dX3_writeOff_15 : decode cX3_writeOff 15 = .ok (.getfield 35, 3) := by decide +kernel
theorem dX3_writeOff_18 : decode cX3_writeOff 18 = .ok (.iload_n 1, 1) := by decide +kernel
theorem dX3_writeOff_19 : decode cX3_writeOff 19 = .ok (.bipush 6, 2) := by decide +kernel
theorem dX3_writeOff_21 : decode cX3_writeOff 21 = .ok (.invokevirtual 159, 3) := by decide +kernel
theorem dX3_writeOff_24 : decode cX3_writeOff 24 = .ok (.ireturn, 1) := by decide +kernel
set_option maxRecDepth 20000 in
theorem ggX3_goForward_X3_checkJourney : GoodIn wsX3_goForward wsX3_checkJourney := goodIn_ca (goodIn_r _ [6, 7, 8, 1, 9, 10, 81, 82, 83, 84, 85, 86, 87, 88, 89, 90, 91, 92, 93, 94, 95, 96, 97, 98, 99, 100, 101, 102, 103, 104, 105, 106, 107, 108, 109, 110, 111, 112, 113, 114, 115, 116, 117, 118] (by decide +kernel) (by decide +kernel)) (goodIn_sub (fun _ h => List.mem_cons_of_mem _ (List.mem_append_left _ (List.mem_append_right _ h))) (by decide +kernel))
set_option maxRecDepth 20000 in
theorem gX3_goForward_X3_checkJourney : GoodIn wsX3_goForward (wsV RX3 96 RX3 yX3_checkJourney wsX3_checkJourney) := goodIn_app (goodIn_of _ (by decide +kernel)) ggX3_goForward_X3_checkJourney
set_option maxRecDepth 20000 in
theorem ggX3_goForward_X3_checkParked : GoodIn wsX3_goForward wsX3_checkParked := goodIn_ca (goodIn_r _ [14, 15, 16, 1, 17, 81, 82, 83, 84, 85, 86, 87, 88, 89, 90, 91, 92, 93, 94, 95, 96, 97, 98, 99, 100, 101] (by decide +kernel) (by decide +kernel)) (goodIn_sub (fun _ h => List.mem_cons_of_mem _ (List.mem_append_right _ h)) (by decide +kernel))
set_option maxRecDepth 20000 in
theorem gX3_goForward_X3_checkParked : GoodIn wsX3_goForward (wsV RX3 156 RX3 yX3_checkParked wsX3_checkParked) := goodIn_app (goodIn_of _ (by decide +kernel)) ggX3_goForward_X3_checkParked
set_option maxRecDepth 20000 in
theorem ggX3_goForward_X3_remember : GoodIn wsX3_goForward wsX3_remember := goodIn_r _ [21, 22, 23, 1, 24, 25, 26, 27, 28, 29, 30, 31, 32, 33, 34, 35, 36, 37, 38, 39, 40, 41, 42, 43, 44, 45, 46, 47, 48, 49, 50, 51, 81, 82, 83, 84, 85, 86, 87, 88, 89, 90, 91, 92, 93, 94, 95, 96, 97, 98, 99, 100, 101] (by decide +kernel) (by decide +kernel)
set_option maxRecDepth 20000 in
theorem gX3_goForward_X3_remember : GoodIn wsX3_goForward (wsV RX3 67 RX3 yX3_remember wsX3_remember) := goodIn_app (goodIn_of _ (by decide +kernel)) ggX3_goForward_X3_remember
set_option maxRecDepth 20000 in
theorem ggX3_goForward_X2_letGoForward : GoodIn wsX3_goForward wsX2_letGoForward := goodIn_r _ [55, 29, 56, 57, 43, 45, 58, 39, 59, 60, 61, 27, 62, 63, 64, 65, 66, 67, 68, 69, 70, 71, 72, 40, 47, 73, 74, 75, 76, 41, 30, 77, 78, 79, 80, 88, 89, 90, 91, 92, 93, 94, 95, 96, 97, 98, 99, 100, 101, 102, 103, 104, 105, 106, 107, 108, 109, 110, 111, 112, 113, 114, 115, 116, 117, 118] (by decide +kernel) (by decide +kernel)
set_option maxRecDepth 20000 in
theorem gX3_goForward_X2_letGoForward : GoodIn wsX3_goForward (wsV RX3 162 RX2 yX2_letGoForward wsX2_letGoForward) := goodIn_app (goodIn_of _ (by decide +kernel)) ggX3_goForward_X2_letGoForward
theorem dX3_goForward_0 : decode cX3_goForward 0 = .ok (.aload_n 0, 1) := by decide +kernel
theorem dX3_goForward_1 : decode cX3_goForward 1 = .ok (.iload_n 1, 1) := by decide +kernel
theorem dX3_goForward_2 : decode cX3_goForward 2 = .ok (.invokevirtual 96, 3) := by decide +kernel
theorem dX3_goForward_5 : decode cX3_goForward 5 = .ok (.aload_n 0, 1) := by decide +kernel
theorem dX3_goForward_6 : decode cX3_goForward 6 = .ok (.iload_n 1, 1) := by decide +kernel
theorem dX3_goForward_7 : decode cX3_goForward 7 = .ok (.invokevirtual 156, 3) := by decide +kernel
theorem dX3_goForward_10 : decode cX3_goForward 10 = .ok (.aload_n 0, 1) := by decide +kernel
theorem dX3_goForward_11 : decode cX3_goForward 11 = .ok (.invokevirtual 67, 3) := by decide +kernel
theorem dX3_goForward_14 : decode cX3_goForward 14 = .ok (.aload_n 0, 1) := by decide +kernel
theorem dX3_goForward_15 : decode cX3_goForward 15 = .ok (.getfield 35, 3) := by decide +kernel
theorem dX3_goForward_18 : decode cX3_goForward 18 = .ok (.iload_n 1, 1) := by decide +kernel
theorem dX3_goForward_19 : decode cX3_goForward 19 = .ok (.invokevirtual 162, 3) := by decide +kernel
theorem dX3_goForward_22 : decode cX3_goForward 22 = .ok (.ireturn, 1) := by decide +kernel
set_option maxRecDepth 20000 in
theorem ggX3_restock_X3_checkStock : GoodIn wsX3_restock wsX3_checkStock := goodIn_ca (goodIn_r _ [9, 10, 11, 3, 12, 13, 48, 49, 50, 51, 52, 53, 54, 55, 56, 57, 58, 59, 60, 61, 62, 63, 64, 65, 66, 67, 68, 69, 70, 71, 72, 73, 74, 75, 76, 77, 78, 79, 80, 81, 82, 83, 84, 85] (by decide +kernel) (by decide +kernel)) (goodIn_sub (fun _ h => List.mem_cons_of_mem _ (List.mem_append_right _ h)) (by decide +kernel))
set_option maxRecDepth 20000 in
theorem gX3_restock_X3_checkStock : GoodIn wsX3_restock (wsV RX3 89 RX3 yX3_checkStock wsX3_checkStock) := goodIn_app (goodIn_of _ (by decide +kernel)) ggX3_restock_X3_checkStock
set_option maxRecDepth 20000 in
theorem ggX3_restock_X3_remember : GoodIn wsX3_restock wsX3_remember := goodIn_r _ [17, 18, 19, 3, 20, 21, 22, 23, 24, 25, 26, 27, 28, 29, 30, 31, 32, 33, 34, 35, 36, 37, 38, 39, 40, 41, 42, 43, 44, 45, 46, 47, 48, 49, 50, 51, 52, 53, 54, 55, 56, 57, 58, 59, 60, 61, 62, 63, 64, 65, 66, 67, 68] (by decide +kernel) (by decide +kernel)
set_option maxRecDepth 20000 in
theorem gX3_restock_X3_remember : GoodIn wsX3_restock (wsV RX3 67 RX3 yX3_remember wsX3_remember) := goodIn_app (goodIn_of _ (by decide +kernel)) ggX3_restock_X3_remember
theorem dX3_restock_0 : decode cX3_restock 0 = .ok (.aload_n 0, 1) := by decide +kernel
theorem dX3_restock_1 : decode cX3_restock 1 = .ok (.iload_n 1, 1) := by decide +kernel
theorem dX3_restock_2 : decode cX3_restock 2 = .ok (.invokevirtual 89, 3) := by decide +kernel
theorem dX3_restock_5 : decode cX3_restock 5 = .ok (.iload_n 2, 1) := by decide +kernel
theorem dX3_restock_6 : decode cX3_restock 6 = .ok (.iconst 1, 1) := by decide +kernel
theorem dX3_restock_7 : decode cX3_restock 7 = .ok (.if_icmp .lt 10, 3) := by decide +kernel
theorem dX3_restock_10 : decode cX3_restock 10 = .ok (.iload_n 2, 1) := by decide +kernel
theorem dX3_restock_11 : decode cX3_restock 11 = .ok (.sipush 999, 3) := by decide +kernel
theorem dX3_restock_14 : decode cX3_restock 14 = .ok (.if_icmp .le 13, 3) := by decide +kernel
theorem dX3_restock_17 : decode cX3_restock 17 = .ok (.new 46, 3) := by decide +kernel
theorem dX3_restock_20 : decode cX3_restock 20 = .ok (.dup, 1) := by decide +kernel
theorem dX3_restock_21 : decode cX3_restock 21 = .ok (.ldc 165, 2) := by decide +kernel
theorem dX3_restock_23 : decode cX3_restock 23 = .ok (.invokespecial 50, 3) := by decide +kernel
theorem dX3_restock_26 : decode cX3_restock 26 = .ok (.athrow, 1) := by decide +kernel
theorem dX3_restock_27 : decode cX3_restock 27 = .ok (.aload_n 0, 1) := by decide +kernel
theorem dX3_restock_28 : decode cX3_restock 28 = .ok (.invokevirtual 67, 3) := by decide +kernel
theorem dX3_restock_31 : decode cX3_restock 31 = .ok (.aload_n 0, 1) := by decide +kernel
theorem dX3_restock_32 : decode cX3_restock 32 = .ok (.getfield 35, 3) := by decide +kernel
theorem dX3_restock_35 : decode cX3_restock 35 = .ok (.getfield 141, 3) := by decide +kernel
theorem dX3_restock_38 : decode cX3_restock 38 = .ok (.iload_n 1, 1) := by decide +kernel
theorem dX3_restock_39 : decode cX3_restock 39 = .ok (.dup2, 1) := by decide +kernel
theorem dX3_restock_40 : decode cX3_restock 40 = .ok (.iaload, 1) := by decide +kernel
theorem dX3_restock_41 : decode cX3_restock 41 = .ok (.iload_n 2, 1) := by decide +kernel
theorem dX3_restock_42 : decode cX3_restock 42 = .ok (.iadd, 1) := by decide +kernel
theorem dX3_restock_43 : decode cX3_restock 43 = .ok (.iastore, 1) := by decide +kernel
theorem dX3_restock_44 : decode cX3_restock 44 = .ok (.aload_n 0, 1) := by decide +kernel
theorem dX3_restock_45 : decode cX3_restock 45 = .ok (.getfield 35, 3) := by decide +kernel
theorem dX3_restock_48 : decode cX3_restock 48 = .ok (.getfield 141, 3) := by decide +kernel
theorem dX3_restock_51 : decode cX3_restock 51 = .ok (.iload_n 1, 1) := by decide +kernel
theorem dX3_restock_52 : decode cX3_restock 52 = .ok (.iaload, 1) := by decide +kernel
theorem dX3_restock_53 : decode cX3_restock 53 = .ok (.ireturn, 1) := by decide +kernel
set_option maxRecDepth 20000 in
theorem ggX3_undo_X2_copyFrom : GoodIn wsX3_undo wsX2_copyFrom := goodIn_r _ [8, 9, 10, 11, 12, 13, 14, 15, 16, 17, 18, 19, 20, 21, 22, 23, 24, 25, 26, 27, 28, 29, 30, 31, 39, 40, 41, 42, 43, 44, 45, 46, 47, 48, 49, 50, 51, 52] (by decide +kernel) (by decide +kernel)
set_option maxRecDepth 20000 in
theorem gX3_undo_X2_copyFrom : GoodIn wsX3_undo (wsV RX3 122 RX2 yX2_copyFrom wsX2_copyFrom) := goodIn_app (goodIn_of _ (by decide +kernel)) ggX3_undo_X2_copyFrom
theorem dX3_undo_0 : decode cX3_undo 0 = .ok (.aload_n 0, 1) := by decide +kernel
theorem dX3_undo_1 : decode cX3_undo 1 = .ok (.getfield 26, 3) := by decide +kernel
theorem dX3_undo_4 : decode cX3_undo 4 = .ok (.iconst 1, 1) := by decide +kernel
theorem dX3_undo_5 : decode cX3_undo 5 = .ok (.if_icmp .ge 5, 3) := by decide +kernel
theorem dX3_undo_8 : decode cX3_undo 8 = .ok (.iconst (-1), 1) := by decide +kernel
theorem dX3_undo_9 : decode cX3_undo 9 = .ok (.ireturn, 1) := by decide +kernel
theorem dX3_undo_10 : decode cX3_undo 10 = .ok (.aload_n 0, 1) := by decide +kernel
theorem dX3_undo_11 : decode cX3_undo 11 = .ok (.dup, 1) := by decide +kernel
theorem dX3_undo_12 : decode cX3_undo 12 = .ok (.getfield 26, 3) := by decide +kernel
theorem dX3_undo_15 : decode cX3_undo 15 = .ok (.iconst 1, 1) := by decide +kernel
theorem dX3_undo_16 : decode cX3_undo 16 = .ok (.isub, 1) := by decide +kernel
theorem dX3_undo_17 : decode cX3_undo 17 = .ok (.putfield 26, 3) := by decide +kernel
theorem dX3_undo_20 : decode cX3_undo 20 = .ok (.aload_n 0, 1) := by decide +kernel
theorem dX3_undo_21 : decode cX3_undo 21 = .ok (.getfield 35, 3) := by decide +kernel
theorem dX3_undo_24 : decode cX3_undo 24 = .ok (.aload_n 0, 1) := by decide +kernel
theorem dX3_undo_25 : decode cX3_undo 25 = .ok (.getfield 22, 3) := by decide +kernel
theorem dX3_undo_28 : decode cX3_undo 28 = .ok (.aload_n 0, 1) := by decide +kernel
theorem dX3_undo_29 : decode cX3_undo 29 = .ok (.getfield 26, 3) := by decide +kernel
theorem dX3_undo_32 : decode cX3_undo 32 = .ok (.aaload, 1) := by decide +kernel
theorem dX3_undo_33 : decode cX3_undo 33 = .ok (.invokevirtual 122, 3) := by decide +kernel
theorem dX3_undo_36 : decode cX3_undo 36 = .ok (.aload_n 0, 1) := by decide +kernel
theorem dX3_undo_37 : decode cX3_undo 37 = .ok (.getfield 26, 3) := by decide +kernel
theorem dX3_undo_40 : decode cX3_undo 40 = .ok (.ireturn, 1) := by decide +kernel
set_option maxRecDepth 20000 in
theorem ggX3_checksum_X2_numberOfAll : GoodIn wsX3_checksum wsX2_numberOfAll := goodIn_r _ [10, 11, 12, 13, 14, 15, 16, 17, 18, 19, 20, 21, 9, 22, 23, 104, 105, 106, 107, 108, 109, 110, 111, 112, 113, 114, 115, 116, 117, 118, 119, 120, 121, 122, 123, 124, 125, 126, 127, 128, 129, 130, 131, 132, 133, 134] (by decide +kernel) (by decide +kernel)
set_option maxRecDepth 20000 in
theorem gX3_checksum_X2_numberOfAll : GoodIn wsX3_checksum (wsV RX3 85 RX2 yX2_numberOfAll wsX2_numberOfAll) := goodIn_app (goodIn_of _ (by decide +kernel)) ggX3_checksum_X2_numberOfAll
set_option maxRecDepth 20000 in
theorem ggX3_checksum_X2_numberOfStock : GoodIn wsX3_checksum wsX2_numberOfStock := goodIn_r _ [27, 28, 12, 29, 30, 31, 32, 9, 33, 14, 34, 35, 36, 37, 23, 38, 39, 40, 41, 42, 43, 44, 45, 46, 47, 48, 49, 50, 51, 52, 53, 54, 55, 56, 57, 58, 15, 104, 105, 106, 107, 108, 109, 110, 111, 112, 113, 114, 115, 116, 117, 118, 119, 120, 121, 122, 123, 124, 125, 126, 127, 128, 129, 130, 131, 132, 133, 134] (by decide +kernel) (by decide +kernel)
set_option maxRecDepth 20000 in
theorem gX3_checksum_X2_numberOfStock : GoodIn wsX3_checksum (wsV RX3 92 RX2 yX2_numberOfStock wsX2_numberOfStock) := goodIn_app (goodIn_of _ (by decide +kernel)) ggX3_checksum_X2_numberOfStock
set_option maxRecDepth 20000 in
theorem ggX3_checksum_X3_sumWithJourney : GoodIn wsX3_checksum wsX3_sumWithJourney := goodIn_r _ [63, 1, 2, 3, 64, 65, 66, 67, 68, 9, 69, 23, 12, 70, 71, 72, 73, 74, 75, 76, 77, 78, 79, 80, 81, 82, 83, 84, 34, 35, 36, 37, 85, 86, 87, 88, 42, 43, 44, 46, 89, 90, 91, 92, 93, 45, 94, 95, 96, 97, 98, 99, 100, 101, 102, 103, 104, 105, 106, 107, 108, 109, 110, 111, 112, 113, 114, 115, 116, 117, 118, 119, 120, 121, 122, 123, 124, 125, 126, 127, 128, 129, 130, 131, 132, 133, 134] (by decide +kernel) (by decide +kernel)
set_option maxRecDepth 20000 in
theorem gX3_checksum_X3_sumWithJourney : GoodIn wsX3_checksum (wsV RX3 172 RX3 yX3_sumWithJourney wsX3_sumWithJourney) := goodIn_app (goodIn_of _ (by decide +kernel)) ggX3_checksum_X3_sumWithJourney
theorem dX3_checksum_0 : decode cX3_checksum 0 = .ok (.lconst 0, 1) := by decide +kernel
theorem dX3_checksum_1 : decode cX3_checksum 1 = .ok (.lstore_n 1, 1) := by decide +kernel
theorem dX3_checksum_2 : decode cX3_checksum 2 = .ok (.iconst 0, 1) := by decide +kernel
theorem dX3_checksum_3 : decode cX3_checksum 3 = .ok (.istore_n 3, 1) := by decide +kernel
theorem dX3_checksum_4 : decode cX3_checksum 4 = .ok (.iload_n 3, 1) := by decide +kernel
theorem dX3_checksum_5 : decode cX3_checksum 5 = .ok (.bipush 10, 2) := by decide +kernel
theorem dX3_checksum_7 : decode cX3_checksum 7 = .ok (.if_icmp .ge 25, 3) := by decide +kernel
theorem dX3_checksum_10 : decode cX3_checksum 10 = .ok (.ldc2_w 167, 3) := by decide +kernel
theorem dX3_checksum_13 : decode cX3_checksum 13 = .ok (.lload_n 1, 1) := by decide +kernel
theorem dX3_checksum_14 : decode cX3_checksum 14 = .ok (.lmul, 1) := by decide +kernel
theorem dX3_checksum_15 : decode cX3_checksum 15 = .ok (.aload_n 0, 1) := by decide +kernel
theorem dX3_checksum_16 : decode cX3_checksum 16 = .ok (.getfield 35, 3) := by decide +kernel
theorem dX3_checksum_19 : decode cX3_checksum 19 = .ok (.iload_n 3, 1) := by decide +kernel
theorem dX3_checksum_20 : decode cX3_checksum 20 = .ok (.invokevirtual 85, 3) := by decide +kernel
theorem dX3_checksum_23 : decode cX3_checksum 23 = .ok (.i2l, 1) := by decide +kernel
theorem dX3_checksum_24 : decode cX3_checksum 24 = .ok (.ladd, 1) := by decide +kernel
theorem dX3_checksum_25 : decode cX3_checksum 25 = .ok (.lstore_n 1, 1) := by decide +kernel
theorem dX3_checksum_26 : decode cX3_checksum 26 = .ok (.iinc 3 1, 3) := by decide +kernel
theorem dX3_checksum_29 : decode cX3_checksum 29 = .ok (.goto (-25), 3) := by decide +kernel
theorem dX3_checksum_32 : decode cX3_checksum 32 = .ok (.iconst 0, 1) := by decide +kernel
theorem dX3_checksum_33 : decode cX3_checksum 33 = .ok (.istore_n 3, 1) := by decide +kernel
theorem dX3_checksum_34 : decode cX3_checksum 34 = .ok (.iload_n 3, 1) := by decide +kernel
theorem dX3_checksum_35 : decode cX3_checksum 35 = .ok (.aload_n 0, 1) := by decide +kernel
theorem dX3_checksum_36 : decode cX3_checksum 36 = .ok (.getfield 35, 3) := by decide +kernel
theorem dX3_checksum_39 : decode cX3_checksum 39 = .ok (.getfield 77, 3) := by decide +kernel
theorem dX3_checksum_42 : decode cX3_checksum 42 = .ok (.getfield 169, 3) := by decide +kernel
theorem dX3_checksum_45 : decode cX3_checksum 45 = .ok (.if_icmp .ge 43, 3) := by decide +kernel
theorem dX3_checksum_48 : decode cX3_checksum 48 = .ok (.iconst 0, 1) := by decide +kernel
theorem dX3_checksum_49 : decode cX3_checksum 49 = .ok (.istore 4, 2) := by decide +kernel
theorem dX3_checksum_51 : decode cX3_checksum 51 = .ok (.iload 4, 2) := by decide +kernel
theorem dX3_checksum_53 : decode cX3_checksum 53 = .ok (.bipush 6, 2) := by decide +kernel
theorem dX3_checksum_55 : decode cX3_checksum 55 = .ok (.if_icmp .ge 27, 3) := by decide +kernel
theorem dX3_checksum_58 : decode cX3_checksum 58 = .ok (.ldc2_w 167, 3) := by decide +kernel
theorem dX3_checksum_61 : decode cX3_checksum 61 = .ok (.lload_n 1, 1) := by decide +kernel
theorem dX3_checksum_62 : decode cX3_checksum 62 = .ok (.lmul, 1) := by decide +kernel
theorem dX3_checksum_63 : decode cX3_checksum 63 = .ok (.aload_n 0, 1) := by decide +kernel
theorem dX3_checksum_64 : decode cX3_checksum 64 = .ok (.getfield 35, 3) := by decide +kernel
theorem dX3_checksum_67 : decode cX3_checksum 67 = .ok (.iload_n 3, 1) := by decide +kernel
theorem dX3_checksum_68 : decode cX3_checksum 68 = .ok (.iload 4, 2) := by decide +kernel
theorem dX3_checksum_70 : decode cX3_checksum 70 = .ok (.invokevirtual 92, 3) := by decide +kernel
theorem dX3_checksum_73 : decode cX3_checksum 73 = .ok (.i2l, 1) := by decide +kernel
theorem dX3_checksum_74 : decode cX3_checksum 74 = .ok (.ladd, 1) := by decide +kernel
theorem dX3_checksum_75 : decode cX3_checksum 75 = .ok (.lstore_n 1, 1) := by decide +kernel
theorem dX3_checksum_76 : decode cX3_checksum 76 = .ok (.iinc 4 1, 3) := by decide +kernel
theorem dX3_checksum_79 : decode cX3_checksum 79 = .ok (.goto (-28), 3) := by decide +kernel
theorem dX3_checksum_82 : decode cX3_checksum 82 = .ok (.iinc 3 1, 3) := by decide +kernel
theorem dX3_checksum_85 : decode cX3_checksum 85 = .ok (.goto (-51), 3) := by decide +kernel
theorem dX3_checksum_88 : decode cX3_checksum 88 = .ok (.iconst 0, 1) := by decide +kernel
theorem dX3_checksum_89 : decode cX3_checksum 89 = .ok (.istore_n 3, 1) := by decide +kernel
theorem dX3_checksum_90 : decode cX3_checksum 90 = .ok (.iload_n 3, 1) := by decide +kernel
theorem dX3_checksum_91 : decode cX3_checksum 91 = .ok (.aload_n 0, 1) := by decide +kernel
theorem dX3_checksum_92 : decode cX3_checksum 92 = .ok (.getfield 35, 3) := by decide +kernel
theorem dX3_checksum_95 : decode cX3_checksum 95 = .ok (.getfield 77, 3) := by decide +kernel
theorem dX3_checksum_98 : decode cX3_checksum 98 = .ok (.getfield 78, 3) := by decide +kernel
theorem dX3_checksum_101 : decode cX3_checksum 101 = .ok (.if_icmp .ge 16, 3) := by decide +kernel
theorem dX3_checksum_104 : decode cX3_checksum 104 = .ok (.aload_n 0, 1) := by decide +kernel
theorem dX3_checksum_105 : decode cX3_checksum 105 = .ok (.lload_n 1, 1) := by decide +kernel
theorem dX3_checksum_106 : decode cX3_checksum 106 = .ok (.iload_n 3, 1) := by decide +kernel
theorem dX3_checksum_107 : decode cX3_checksum 107 = .ok (.invokevirtual 172, 3) := by decide +kernel
theorem dX3_checksum_110 : decode cX3_checksum 110 = .ok (.lstore_n 1, 1) := by decide +kernel
theorem dX3_checksum_111 : decode cX3_checksum 111 = .ok (.iinc 3 1, 3) := by decide +kernel
theorem dX3_checksum_114 : decode cX3_checksum 114 = .ok (.goto (-24), 3) := by decide +kernel
theorem dX3_checksum_117 : decode cX3_checksum 117 = .ok (.lload_n 1, 1) := by decide +kernel
theorem dX3_checksum_118 : decode cX3_checksum 118 = .ok (.lreturn, 1) := by decide +kernel
set_option maxRecDepth 20000 in
theorem ggX3_sumWithJourney_X2_numberOfJourney : GoodIn wsX3_sumWithJourney wsX2_numberOfJourney := goodIn_r _ [10, 11, 12, 13, 14, 15, 16, 17, 18, 19, 20, 21, 22, 23, 24, 25, 26, 9, 27, 28, 29, 30, 31, 32, 33, 34, 35, 36, 37, 38, 39, 56, 57, 58, 59, 60, 61, 62, 63, 64, 65, 66, 67, 68, 69, 70, 71, 72, 73, 74, 75, 76, 77, 78, 79, 80, 81, 82, 83, 84, 85, 86] (by decide +kernel) (by decide +kernel)
set_option maxRecDepth 20000 in
theorem gX3_sumWithJourney_X2_numberOfJourney : GoodIn wsX3_sumWithJourney (wsV RX3 99 RX2 yX2_numberOfJourney wsX2_numberOfJourney) := goodIn_app (goodIn_of _ (by decide +kernel)) ggX3_sumWithJourney_X2_numberOfJourney
set_option maxRecDepth 20000 in
theorem ggX3_sumWithJourney_X2_numberOfStep : GoodIn wsX3_sumWithJourney wsX2_numberOfStep := goodIn_r _ [43, 12, 44, 45, 39, 46, 38, 47, 48, 56, 57, 58, 59, 60, 61, 62, 63, 64, 65, 66, 67, 68, 69, 70, 71, 72, 73, 74, 75, 76, 77, 78, 79, 80, 81, 82, 83, 84, 85, 86] (by decide +kernel) (by decide +kernel)
set_option maxRecDepth 20000 in
theorem gX3_sumWithJourney_X2_numberOfStep : GoodIn wsX3_sumWithJourney (wsV RX3 114 RX2 yX2_numberOfStep wsX2_numberOfStep) := goodIn_app (goodIn_of _ (by decide +kernel)) ggX3_sumWithJourney_X2_numberOfStep
theorem dX3_sumWithJourney_0 : decode cX3_sumWithJourney 0 = .ok (.lload_n 1, 1) := by decide +kernel
theorem dX3_sumWithJourney_1 : decode cX3_sumWithJourney 1 = .ok (.lstore 4, 2) := by decide +kernel
theorem dX3_sumWithJourney_3 : decode cX3_sumWithJourney 3 = .ok (.iconst 0, 1) := by decide +kernel
theorem dX3_sumWithJourney_4 : decode cX3_sumWithJourney 4 = .ok (.istore 6, 2) := by decide +kernel
theorem dX3_sumWithJourney_6 : decode cX3_sumWithJourney 6 = .ok (.iload 6, 2) := by decide +kernel
theorem dX3_sumWithJourney_8 : decode cX3_sumWithJourney 8 = .ok (.bipush 7, 2) := by decide +kernel
theorem dX3_sumWithJourney_10 : decode cX3_sumWithJourney 10 = .ok (.if_icmp .ge 29, 3) := by decide +kernel
theorem dX3_sumWithJourney_13 : decode cX3_sumWithJourney 13 = .ok (.ldc2_w 167, 3) := by decide +kernel
theorem dX3_sumWithJourney_16 : decode cX3_sumWithJourney 16 = .ok (.lload 4, 2) := by decide +kernel
theorem dX3_sumWithJourney_18 : decode cX3_sumWithJourney 18 = .ok (.lmul, 1) := by decide +kernel
theorem dX3_sumWithJourney_19 : decode cX3_sumWithJourney 19 = .ok (.aload_n 0, 1) := by decide +kernel
theorem dX3_sumWithJourney_20 : decode cX3_sumWithJourney 20 = .ok (.getfield 35, 3) := by decide +kernel
theorem dX3_sumWithJourney_23 : decode cX3_sumWithJourney 23 = .ok (.iload_n 3, 1) := by decide +kernel
theorem dX3_sumWithJourney_24 : decode cX3_sumWithJourney 24 = .ok (.iload 6, 2) := by decide +kernel
theorem dX3_sumWithJourney_26 : decode cX3_sumWithJourney 26 = .ok (.invokevirtual 99, 3) := by decide +kernel
theorem dX3_sumWithJourney_29 : decode cX3_sumWithJourney 29 = .ok (.i2l, 1) := by decide +kernel
theorem dX3_sumWithJourney_30 : decode cX3_sumWithJourney 30 = .ok (.ladd, 1) := by decide +kernel
theorem dX3_sumWithJourney_31 : decode cX3_sumWithJourney 31 = .ok (.lstore 4, 2) := by decide +kernel
theorem dX3_sumWithJourney_33 : decode cX3_sumWithJourney 33 = .ok (.iinc 6 1, 3) := by decide +kernel
theorem dX3_sumWithJourney_36 : decode cX3_sumWithJourney 36 = .ok (.goto (-30), 3) := by decide +kernel
theorem dX3_sumWithJourney_39 : decode cX3_sumWithJourney 39 = .ok (.aload_n 0, 1) := by decide +kernel
theorem dX3_sumWithJourney_40 : decode cX3_sumWithJourney 40 = .ok (.getfield 35, 3) := by decide +kernel
theorem dX3_sumWithJourney_43 : decode cX3_sumWithJourney 43 = .ok (.getfield 77, 3) := by decide +kernel
theorem dX3_sumWithJourney_46 : decode cX3_sumWithJourney 46 = .ok (.getfield 176, 3) := by decide +kernel
theorem dX3_sumWithJourney_49 : decode cX3_sumWithJourney 49 = .ok (.iload_n 3, 1) := by decide +kernel
theorem dX3_sumWithJourney_50 : decode cX3_sumWithJourney 50 = .ok (.iaload, 1) := by decide +kernel
theorem dX3_sumWithJourney_51 : decode cX3_sumWithJourney 51 = .ok (.istore 6, 2) := by decide +kernel
theorem dX3_sumWithJourney_53 : decode cX3_sumWithJourney 53 = .ok (.aload_n 0, 1) := by decide +kernel
theorem dX3_sumWithJourney_54 : decode cX3_sumWithJourney 54 = .ok (.getfield 35, 3) := by decide +kernel
theorem dX3_sumWithJourney_57 : decode cX3_sumWithJourney 57 = .ok (.getfield 77, 3) := by decide +kernel
theorem dX3_sumWithJourney_60 : decode cX3_sumWithJourney 60 = .ok (.getfield 110, 3) := by decide +kernel
theorem dX3_sumWithJourney_63 : decode cX3_sumWithJourney 63 = .ok (.iload_n 3, 1) := by decide +kernel
theorem dX3_sumWithJourney_64 : decode cX3_sumWithJourney 64 = .ok (.iaload, 1) := by decide +kernel
theorem dX3_sumWithJourney_65 : decode cX3_sumWithJourney 65 = .ok (.istore 7, 2) := by decide +kernel
theorem dX3_sumWithJourney_67 : decode cX3_sumWithJourney 67 = .ok (.iload 7, 2) := by decide +kernel
theorem dX3_sumWithJourney_69 : decode cX3_sumWithJourney 69 = .ok (.iload 6, 2) := by decide +kernel
theorem dX3_sumWithJourney_71 : decode cX3_sumWithJourney 71 = .ok (.if_icmp .ge 46, 3) := by decide +kernel
theorem dX3_sumWithJourney_74 : decode cX3_sumWithJourney 74 = .ok (.iconst 4, 1) := by decide +kernel
theorem dX3_sumWithJourney_75 : decode cX3_sumWithJourney 75 = .ok (.istore 8, 2) := by decide +kernel
theorem dX3_sumWithJourney_77 : decode cX3_sumWithJourney 77 = .ok (.iload 8, 2) := by decide +kernel
theorem dX3_sumWithJourney_79 : decode cX3_sumWithJourney 79 = .ok (.bipush 7, 2) := by decide +kernel
theorem dX3_sumWithJourney_81 : decode cX3_sumWithJourney 81 = .ok (.if_icmp .ge 30, 3) := by decide +kernel
theorem dX3_sumWithJourney_84 : decode cX3_sumWithJourney 84 = .ok (.ldc2_w 167, 3) := by decide +kernel
theorem dX3_sumWithJourney_87 : decode cX3_sumWithJourney 87 = .ok (.lload 4, 2) := by decide +kernel
theorem dX3_sumWithJourney_89 : decode cX3_sumWithJourney 89 = .ok (.lmul, 1) := by decide +kernel
theorem dX3_sumWithJourney_90 : decode cX3_sumWithJourney 90 = .ok (.aload_n 0, 1) := by decide +kernel
theorem dX3_sumWithJourney_91 : decode cX3_sumWithJourney 91 = .ok (.getfield 35, 3) := by decide +kernel
theorem dX3_sumWithJourney_94 : decode cX3_sumWithJourney 94 = .ok (.iload 7, 2) := by decide +kernel
theorem dX3_sumWithJourney_96 : decode cX3_sumWithJourney 96 = .ok (.iload 8, 2) := by decide +kernel
theorem dX3_sumWithJourney_98 : decode cX3_sumWithJourney 98 = .ok (.invokevirtual 114, 3) := by decide +kernel
theorem dX3_sumWithJourney_101 : decode cX3_sumWithJourney 101 = .ok (.i2l, 1) := by decide +kernel
theorem dX3_sumWithJourney_102 : decode cX3_sumWithJourney 102 = .ok (.ladd, 1) := by decide +kernel
theorem dX3_sumWithJourney_103 : decode cX3_sumWithJourney 103 = .ok (.lstore 4, 2) := by decide +kernel
theorem dX3_sumWithJourney_105 : decode cX3_sumWithJourney 105 = .ok (.iinc 8 1, 3) := by decide +kernel
theorem dX3_sumWithJourney_108 : decode cX3_sumWithJourney 108 = .ok (.goto (-31), 3) := by decide +kernel
theorem dX3_sumWithJourney_111 : decode cX3_sumWithJourney 111 = .ok (.iinc 7 1, 3) := by decide +kernel
theorem dX3_sumWithJourney_114 : decode cX3_sumWithJourney 114 = .ok (.goto (-47), 3) := by decide +kernel
theorem dX3_sumWithJourney_117 : decode cX3_sumWithJourney 117 = .ok (.lload 4, 2) := by decide +kernel
theorem dX3_sumWithJourney_119 : decode cX3_sumWithJourney 119 = .ok (.lreturn, 1) := by decide +kernel
theorem dX3_putWord_0 : decode cX3_putWord 0 = .ok (.bipush 24, 2) := by decide +kernel
theorem dX3_putWord_2 : decode cX3_putWord 2 = .ok (.istore_n 2, 1) := by decide +kernel
theorem dX3_putWord_3 : decode cX3_putWord 3 = .ok (.iload_n 2, 1) := by decide +kernel
theorem dX3_putWord_4 : decode cX3_putWord 4 = .ok (.ifCond .lt 32, 3) := by decide +kernel
theorem dX3_putWord_7 : decode cX3_putWord 7 = .ok (.aload_n 0, 1) := by decide +kernel
theorem dX3_putWord_8 : decode cX3_putWord 8 = .ok (.getfield 9, 3) := by decide +kernel
theorem dX3_putWord_11 : decode cX3_putWord 11 = .ok (.aload_n 0, 1) := by decide +kernel
theorem dX3_putWord_12 : decode cX3_putWord 12 = .ok (.getfield 13, 3) := by decide +kernel
theorem dX3_putWord_15 : decode cX3_putWord 15 = .ok (.iload_n 1, 1) := by decide +kernel
theorem dX3_putWord_16 : decode cX3_putWord 16 = .ok (.iload_n 2, 1) := by decide +kernel
theorem dX3_putWord_17 : decode cX3_putWord 17 = .ok (.iushr, 1) := by decide +kernel
theorem dX3_putWord_18 : decode cX3_putWord 18 = .ok (.i2b, 1) := by decide +kernel
theorem dX3_putWord_19 : decode cX3_putWord 19 = .ok (.bastore, 1) := by decide +kernel
theorem dX3_putWord_20 : decode cX3_putWord 20 = .ok (.aload_n 0, 1) := by decide +kernel
theorem dX3_putWord_21 : decode cX3_putWord 21 = .ok (.dup, 1) := by decide +kernel
theorem dX3_putWord_22 : decode cX3_putWord 22 = .ok (.getfield 13, 3) := by decide +kernel
theorem dX3_putWord_25 : decode cX3_putWord 25 = .ok (.iconst 1, 1) := by decide +kernel
theorem dX3_putWord_26 : decode cX3_putWord 26 = .ok (.iadd, 1) := by decide +kernel
theorem dX3_putWord_27 : decode cX3_putWord 27 = .ok (.putfield 13, 3) := by decide +kernel
theorem dX3_putWord_30 : decode cX3_putWord 30 = .ok (.iinc 2 (-8), 3) := by decide +kernel
theorem dX3_putWord_33 : decode cX3_putWord 33 = .ok (.goto (-30), 3) := by decide +kernel
theorem dX3_putWord_36 : decode cX3_putWord 36 = .ok (.return_, 1) := by decide +kernel
set_option maxRecDepth 20000 in
theorem ggX3_remember_X2_copyFrom : GoodIn wsX3_remember wsX2_copyFrom := goodIn_r _ [8, 9, 10, 11, 12, 13, 14, 15, 16, 17, 18, 19, 20, 21, 22, 23, 24, 25, 26, 27, 28, 29, 30, 31, 39, 40, 41, 42, 43, 44, 45, 46, 47, 48, 49, 50, 51, 52] (by decide +kernel) (by decide +kernel)
set_option maxRecDepth 20000 in
theorem gX3_remember_X2_copyFrom : GoodIn wsX3_remember (wsV RX3 122 RX2 yX2_copyFrom wsX2_copyFrom) := goodIn_app (goodIn_of _ (by decide +kernel)) ggX3_remember_X2_copyFrom
theorem dX3_remember_0 : decode cX3_remember 0 = .ok (.aload_n 0, 1) := by decide +kernel
theorem dX3_remember_1 : decode cX3_remember 1 = .ok (.getfield 26, 3) := by decide +kernel
theorem dX3_remember_4 : decode cX3_remember 4 = .ok (.bipush 8, 2) := by decide +kernel
theorem dX3_remember_6 : decode cX3_remember 6 = .ok (.if_icmp .lt 60, 3) := by decide +kernel
theorem dX3_remember_9 : decode cX3_remember 9 = .ok (.aload_n 0, 1) := by decide +kernel
theorem dX3_remember_10 : decode cX3_remember 10 = .ok (.getfield 22, 3) := by decide +kernel
theorem dX3_remember_13 : decode cX3_remember 13 = .ok (.iconst 0, 1) := by decide +kernel
theorem dX3_remember_14 : decode cX3_remember 14 = .ok (.aaload, 1) := by decide +kernel
theorem dX3_remember_15 : decode cX3_remember 15 = .ok (.astore_n 1, 1) := by decide +kernel
theorem dX3_remember_16 : decode cX3_remember 16 = .ok (.iconst 1, 1) := by decide +kernel
theorem dX3_remember_17 : decode cX3_remember 17 = .ok (.istore_n 2, 1) := by decide +kernel
theorem dX3_remember_18 : decode cX3_remember 18 = .ok (.iload_n 2, 1) := by decide +kernel
theorem dX3_remember_19 : decode cX3_remember 19 = .ok (.aload_n 0, 1) := by decide +kernel
theorem dX3_remember_20 : decode cX3_remember 20 = .ok (.getfield 22, 3) := by decide +kernel
theorem dX3_remember_23 : decode cX3_remember 23 = .ok (.arraylength, 1) := by decide +kernel
theorem dX3_remember_24 : decode cX3_remember 24 = .ok (.if_icmp .ge 23, 3) := by decide +kernel
theorem dX3_remember_27 : decode cX3_remember 27 = .ok (.aload_n 0, 1) := by decide +kernel
theorem dX3_remember_28 : decode cX3_remember 28 = .ok (.getfield 22, 3) := by decide +kernel
theorem dX3_remember_31 : decode cX3_remember 31 = .ok (.iload_n 2, 1) := by decide +kernel
theorem dX3_remember_32 : decode cX3_remember 32 = .ok (.iconst 1, 1) := by decide +kernel
theorem dX3_remember_33 : decode cX3_remember 33 = .ok (.isub, 1) := by decide +kernel
theorem dX3_remember_34 : decode cX3_remember 34 = .ok (.aload_n 0, 1) := by decide +kernel
theorem dX3_remember_35 : decode cX3_remember 35 = .ok (.getfield 22, 3) := by decide +kernel
theorem dX3_remember_38 : decode cX3_remember 38 = .ok (.iload_n 2, 1) := by decide +kernel
theorem dX3_remember_39 : decode cX3_remember 39 = .ok (.aaload, 1) := by decide +kernel
theorem dX3_remember_40 : decode cX3_remember 40 = .ok (.aastore, 1) := by decide +kernel
theorem dX3_remember_41 : decode cX3_remember 41 = .ok (.iinc 2 1, 3) := by decide +kernel
theorem dX3_remember_44 : decode cX3_remember 44 = .ok (.goto (-26), 3) := by decide +kernel
theorem dX3_remember_47 : decode cX3_remember 47 = .ok (.aload_n 0, 1) := by decide +kernel
theorem dX3_remember_48 : decode cX3_remember 48 = .ok (.getfield 22, 3) := by decide +kernel
theorem dX3_remember_51 : decode cX3_remember 51 = .ok (.aload_n 0, 1) := by decide +kernel
theorem dX3_remember_52 : decode cX3_remember 52 = .ok (.getfield 22, 3) := by decide +kernel
theorem dX3_remember_55 : decode cX3_remember 55 = .ok (.arraylength, 1) := by decide +kernel
theorem dX3_remember_56 : decode cX3_remember 56 = .ok (.iconst 1, 1) := by decide +kernel
theorem dX3_remember_57 : decode cX3_remember 57 = .ok (.isub, 1) := by decide +kernel
theorem dX3_remember_58 : decode cX3_remember 58 = .ok (.aload_n 1, 1) := by decide +kernel
theorem dX3_remember_59 : decode cX3_remember 59 = .ok (.aastore, 1) := by decide +kernel
theorem dX3_remember_60 : decode cX3_remember 60 = .ok (.aload_n 0, 1) := by decide +kernel
theorem dX3_remember_61 : decode cX3_remember 61 = .ok (.bipush 7, 2) := by decide +kernel
theorem dX3_remember_63 : decode cX3_remember 63 = .ok (.putfield 26, 3) := by decide +kernel
theorem dX3_remember_66 : decode cX3_remember 66 = .ok (.aload_n 0, 1) := by decide +kernel
theorem dX3_remember_67 : decode cX3_remember 67 = .ok (.getfield 22, 3) := by decide +kernel
theorem dX3_remember_70 : decode cX3_remember 70 = .ok (.aload_n 0, 1) := by decide +kernel
theorem dX3_remember_71 : decode cX3_remember 71 = .ok (.getfield 26, 3) := by decide +kernel
theorem dX3_remember_74 : decode cX3_remember 74 = .ok (.aaload, 1) := by decide +kernel
theorem dX3_remember_75 : decode cX3_remember 75 = .ok (.aload_n 0, 1) := by decide +kernel
theorem dX3_remember_76 : decode cX3_remember 76 = .ok (.getfield 35, 3) := by decide +kernel
theorem dX3_remember_79 : decode cX3_remember 79 = .ok (.invokevirtual 122, 3) := by decide +kernel
theorem dX3_remember_82 : decode cX3_remember 82 = .ok (.aload_n 0, 1) := by decide +kernel
theorem dX3_remember_83 : decode cX3_remember 83 = .ok (.dup, 1) := by decide +kernel
theorem dX3_remember_84 : decode cX3_remember 84 = .ok (.getfield 26, 3) := by decide +kernel
theorem dX3_remember_87 : decode cX3_remember 87 = .ok (.iconst 1, 1) := by decide +kernel
theorem dX3_remember_88 : decode cX3_remember 88 = .ok (.iadd, 1) := by decide +kernel
theorem dX3_remember_89 : decode cX3_remember 89 = .ok (.putfield 26, 3) := by decide +kernel
theorem dX3_remember_92 : decode cX3_remember 92 = .ok (.return_, 1) := by decide +kernel
theorem dX3_checkStock_0 : decode cX3_checkStock 0 = .ok (.iload_n 1, 1) := by decide +kernel
theorem dX3_checkStock_1 : decode cX3_checkStock 1 = .ok (.ifCond .lt 17, 3) := by decide +kernel
theorem dX3_checkStock_4 : decode cX3_checkStock 4 = .ok (.iload_n 1, 1) := by decide +kernel
theorem dX3_checkStock_5 : decode cX3_checkStock 5 = .ok (.aload_n 0, 1) := by decide +kernel
theorem dX3_checkStock_6 : decode cX3_checkStock 6 = .ok (.getfield 35, 3) := by decide +kernel
theorem dX3_checkStock_9 : decode cX3_checkStock 9 = .ok (.getfield 77, 3) := by decide +kernel
theorem dX3_checkStock_12 : decode cX3_checkStock 12 = .ok (.getfield 169, 3) := by decide +kernel
theorem dX3_checkStock_15 : decode cX3_checkStock 15 = .ok (.if_icmp .lt 13, 3) := by decide +kernel
theorem dX3_checkStock_18 : decode cX3_checkStock 18 = .ok (.new 179, 3) := by decide +kernel
theorem dX3_checkStock_21 : decode cX3_checkStock 21 = .ok (.dup, 1) := by decide +kernel
theorem dX3_checkStock_22 : decode cX3_checkStock 22 = .ok (.ldc 181, 2) := by decide +kernel
theorem dX3_checkStock_24 : decode cX3_checkStock 24 = .ok (.invokespecial 183, 3) := by decide +kernel
theorem dX3_checkStock_27 : decode cX3_checkStock 27 = .ok (.athrow, 1) := by decide +kernel
theorem dX3_checkStock_28 : decode cX3_checkStock 28 = .ok (.return_, 1) := by decide +kernel
theorem dX3_checkJourney_0 : decode cX3_checkJourney 0 = .ok (.iload_n 1, 1) := by decide +kernel
theorem dX3_checkJourney_1 : decode cX3_checkJourney 1 = .ok (.ifCond .lt 17, 3) := by decide +kernel
theorem dX3_checkJourney_4 : decode cX3_checkJourney 4 = .ok (.iload_n 1, 1) := by decide +kernel
theorem dX3_checkJourney_5 : decode cX3_checkJourney 5 = .ok (.aload_n 0, 1) := by decide +kernel
theorem dX3_checkJourney_6 : decode cX3_checkJourney 6 = .ok (.getfield 35, 3) := by decide +kernel
theorem dX3_checkJourney_9 : decode cX3_checkJourney 9 = .ok (.getfield 77, 3) := by decide +kernel
theorem dX3_checkJourney_12 : decode cX3_checkJourney 12 = .ok (.getfield 78, 3) := by decide +kernel
theorem dX3_checkJourney_15 : decode cX3_checkJourney 15 = .ok (.if_icmp .lt 13, 3) := by decide +kernel
theorem dX3_checkJourney_18 : decode cX3_checkJourney 18 = .ok (.new 179, 3) := by decide +kernel
theorem dX3_checkJourney_21 : decode cX3_checkJourney 21 = .ok (.dup, 1) := by decide +kernel
theorem dX3_checkJourney_22 : decode cX3_checkJourney 22 = .ok (.ldc 184, 2) := by decide +kernel
theorem dX3_checkJourney_24 : decode cX3_checkJourney 24 = .ok (.invokespecial 183, 3) := by decide +kernel
theorem dX3_checkJourney_27 : decode cX3_checkJourney 27 = .ok (.athrow, 1) := by decide +kernel
theorem dX3_checkJourney_28 : decode cX3_checkJourney 28 = .ok (.return_, 1) := by decide +kernel
theorem dX3_checkParked_0 : decode cX3_checkParked 0 = .ok (.aload_n 0, 1) := by decide +kernel
theorem dX3_checkParked_1 : decode cX3_checkParked 1 = .ok (.getfield 35, 3) := by decide +kernel
theorem dX3_checkParked_4 : decode cX3_checkParked 4 = .ok (.getfield 138, 3) := by decide +kernel
theorem dX3_checkParked_7 : decode cX3_checkParked 7 = .ok (.iload_n 1, 1) := by decide +kernel
theorem dX3_checkParked_8 : decode cX3_checkParked 8 = .ok (.iaload, 1) := by decide +kernel
theorem dX3_checkParked_9 : decode cX3_checkParked 9 = .ok (.iconst 5, 1) := by decide +kernel
theorem dX3_checkParked_10 : decode cX3_checkParked 10 = .ok (.if_icmp .eq 13, 3) := by decide +kernel
theorem dX3_checkParked_13 : decode cX3_checkParked 13 = .ok (.new 186, 3) := by decide +kernel
theorem dX3_checkParked_16 : decode cX3_checkParked 16 = .ok (.dup, 1) := by decide +kernel
theorem dX3_checkParked_17 : decode cX3_checkParked 17 = .ok (.ldc 188, 2) := by decide +kernel
theorem dX3_checkParked_19 : decode cX3_checkParked 19 = .ok (.invokespecial 190, 3) := by decide +kernel
theorem dX3_checkParked_22 : decode cX3_checkParked 22 = .ok (.athrow, 1) := by decide +kernel
theorem dX3_checkParked_23 : decode cX3_checkParked 23 = .ok (.return_, 1) := by decide +kernel
theorem dX3_checkWhat_0 : decode cX3_checkWhat 0 = .ok (.iload_n 0, 1) := by decide +kernel
theorem dX3_checkWhat_1 : decode cX3_checkWhat 1 = .ok (.ifCond .lt 8, 3) := by decide +kernel
theorem dX3_checkWhat_4 : decode cX3_checkWhat 4 = .ok (.iload_n 0, 1) := by decide +kernel
theorem dX3_checkWhat_5 : decode cX3_checkWhat 5 = .ok (.iload_n 1, 1) := by decide +kernel
theorem dX3_checkWhat_6 : decode cX3_checkWhat 6 = .ok (.if_icmp .lt 13, 3) := by decide +kernel
theorem dX3_checkWhat_9 : decode cX3_checkWhat 9 = .ok (.new 46, 3) := by decide +kernel
theorem dX3_checkWhat_12 : decode cX3_checkWhat 12 = .ok (.dup, 1) := by decide +kernel
theorem dX3_checkWhat_13 : decode cX3_checkWhat 13 = .ok (.ldc 191, 2) := by decide +kernel
theorem dX3_checkWhat_15 : decode cX3_checkWhat 15 = .ok (.invokespecial 50, 3) := by decide +kernel
theorem dX3_checkWhat_18 : decode cX3_checkWhat 18 = .ok (.athrow, 1) := by decide +kernel
theorem dX3_checkWhat_19 : decode cX3_checkWhat 19 = .ok (.return_, 1) := by decide +kernel
