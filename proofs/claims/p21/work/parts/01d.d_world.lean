theorem dX2_init_0 : decode cX2_init 0 = .ok (.aload_n 0, 1) := by decide +kernel
theorem dX2_init_1 : decode cX2_init 1 = .ok (.invokespecial 3, 3) := by decide +kernel
theorem dX2_init_4 : decode cX2_init 4 = .ok (.aload_n 0, 1) := by decide +kernel
theorem dX2_init_5 : decode cX2_init 5 = .ok (.iconst 0, 1) := by decide +kernel
theorem dX2_init_6 : decode cX2_init 6 = .ok (.putfield 9, 3) := by decide +kernel
theorem dX2_init_9 : decode cX2_init 9 = .ok (.aload_n 0, 1) := by decide +kernel
theorem dX2_init_10 : decode cX2_init 10 = .ok (.iconst 0, 1) := by decide +kernel
theorem dX2_init_11 : decode cX2_init 11 = .ok (.putfield 15, 3) := by decide +kernel
theorem dX2_init_14 : decode cX2_init 14 = .ok (.aload_n 0, 1) := by decide +kernel
theorem dX2_init_15 : decode cX2_init 15 = .ok (.bipush 6, 2) := by decide +kernel
theorem dX2_init_17 : decode cX2_init 17 = .ok (.newarray .int, 2) := by decide +kernel
theorem dX2_init_19 : decode cX2_init 19 = .ok (.putfield 18, 3) := by decide +kernel
theorem dX2_init_22 : decode cX2_init 22 = .ok (.aload_n 0, 1) := by decide +kernel
theorem dX2_init_23 : decode cX2_init 23 = .ok (.bipush 6, 2) := by decide +kernel
theorem dX2_init_25 : decode cX2_init 25 = .ok (.newarray .int, 2) := by decide +kernel
theorem dX2_init_27 : decode cX2_init 27 = .ok (.putfield 22, 3) := by decide +kernel
theorem dX2_init_30 : decode cX2_init 30 = .ok (.aload_n 0, 1) := by decide +kernel
theorem dX2_init_31 : decode cX2_init 31 = .ok (.bipush 8, 2) := by decide +kernel
theorem dX2_init_33 : decode cX2_init 33 = .ok (.newarray .int, 2) := by decide +kernel
theorem dX2_init_35 : decode cX2_init 35 = .ok (.putfield 25, 3) := by decide +kernel
theorem dX2_init_38 : decode cX2_init 38 = .ok (.aload_n 0, 1) := by decide +kernel
theorem dX2_init_39 : decode cX2_init 39 = .ok (.bipush 8, 2) := by decide +kernel
theorem dX2_init_41 : decode cX2_init 41 = .ok (.newarray .int, 2) := by decide +kernel
theorem dX2_init_43 : decode cX2_init 43 = .ok (.putfield 28, 3) := by decide +kernel
theorem dX2_init_46 : decode cX2_init 46 = .ok (.aload_n 0, 1) := by decide +kernel
theorem dX2_init_47 : decode cX2_init 47 = .ok (.bipush 8, 2) := by decide +kernel
theorem dX2_init_49 : decode cX2_init 49 = .ok (.newarray .int, 2) := by decide +kernel
theorem dX2_init_51 : decode cX2_init 51 = .ok (.putfield 31, 3) := by decide +kernel
theorem dX2_init_54 : decode cX2_init 54 = .ok (.aload_n 0, 1) := by decide +kernel
theorem dX2_init_55 : decode cX2_init 55 = .ok (.bipush 8, 2) := by decide +kernel
theorem dX2_init_57 : decode cX2_init 57 = .ok (.newarray .int, 2) := by decide +kernel
theorem dX2_init_59 : decode cX2_init 59 = .ok (.putfield 34, 3) := by decide +kernel
theorem dX2_init_62 : decode cX2_init 62 = .ok (.aload_n 0, 1) := by decide +kernel
theorem dX2_init_63 : decode cX2_init 63 = .ok (.bipush 40, 2) := by decide +kernel
theorem dX2_init_65 : decode cX2_init 65 = .ok (.newarray .int, 2) := by decide +kernel
theorem dX2_init_67 : decode cX2_init 67 = .ok (.putfield 37, 3) := by decide +kernel
theorem dX2_init_70 : decode cX2_init 70 = .ok (.aload_n 0, 1) := by decide +kernel
theorem dX2_init_71 : decode cX2_init 71 = .ok (.bipush 40, 2) := by decide +kernel
theorem dX2_init_73 : decode cX2_init 73 = .ok (.newarray .int, 2) := by decide +kernel
theorem dX2_init_75 : decode cX2_init 75 = .ok (.putfield 40, 3) := by decide +kernel
theorem dX2_init_78 : decode cX2_init 78 = .ok (.aload_n 0, 1) := by decide +kernel
theorem dX2_init_79 : decode cX2_init 79 = .ok (.bipush 40, 2) := by decide +kernel
theorem dX2_init_81 : decode cX2_init 81 = .ok (.newarray .int, 2) := by decide +kernel
theorem dX2_init_83 : decode cX2_init 83 = .ok (.putfield 43, 3) := by decide +kernel
theorem dX2_init_86 : decode cX2_init 86 = .ok (.aload_n 0, 1) := by decide +kernel
theorem dX2_init_87 : decode cX2_init 87 = .ok (.bipush 40, 2) := by decide +kernel
theorem dX2_init_89 : decode cX2_init 89 = .ok (.newarray .int, 2) := by decide +kernel
theorem dX2_init_91 : decode cX2_init 91 = .ok (.putfield 46, 3) := by decide +kernel
theorem dX2_init_94 : decode cX2_init 94 = .ok (.aload_n 0, 1) := by decide +kernel
theorem dX2_init_95 : decode cX2_init 95 = .ok (.bipush 40, 2) := by decide +kernel
theorem dX2_init_97 : decode cX2_init 97 = .ok (.newarray .int, 2) := by decide +kernel
theorem dX2_init_99 : decode cX2_init 99 = .ok (.putfield 49, 3) := by decide +kernel
theorem dX2_init_102 : decode cX2_init 102 = .ok (.aload_n 0, 1) := by decide +kernel
theorem dX2_init_103 : decode cX2_init 103 = .ok (.aload_n 1, 1) := by decide +kernel
theorem dX2_init_104 : decode cX2_init 104 = .ok (.putfield 52, 3) := by decide +kernel
theorem dX2_init_107 : decode cX2_init 107 = .ok (.return_, 1) := by decide +kernel
set_option maxRecDepth 20000 in
theorem ggX2_begin_J7_fill_53178 : GoodIn wsX2_begin wsJ7_fill_53178 := goodIn_r _ [24] (by decide +kernel) (by decide +kernel)
set_option maxRecDepth 20000 in
theorem gX2_begin_J7_fill_53178 : GoodIn wsX2_begin (va_wsS RX2 67 yJ7_fill_53178 wsJ7_fill_53178) := goodIn_app (goodIn_of _ (by decide +kernel)) ggX2_begin_J7_fill_53178
theorem dX2_begin_0 : decode cX2_begin 0 = .ok (.aload_n 0, 1) := by decide +kernel
theorem dX2_begin_1 : decode cX2_begin 1 = .ok (.aload_n 1, 1) := by decide +kernel
theorem dX2_begin_2 : decode cX2_begin 2 = .ok (.putfield 52, 3) := by decide +kernel
theorem dX2_begin_5 : decode cX2_begin 5 = .ok (.aload_n 0, 1) := by decide +kernel
theorem dX2_begin_6 : decode cX2_begin 6 = .ok (.iconst 0, 1) := by decide +kernel
theorem dX2_begin_7 : decode cX2_begin 7 = .ok (.putfield 9, 3) := by decide +kernel
theorem dX2_begin_10 : decode cX2_begin 10 = .ok (.aload_n 0, 1) := by decide +kernel
theorem dX2_begin_11 : decode cX2_begin 11 = .ok (.iconst 0, 1) := by decide +kernel
theorem dX2_begin_12 : decode cX2_begin 12 = .ok (.putfield 15, 3) := by decide +kernel
theorem dX2_begin_15 : decode cX2_begin 15 = .ok (.aload_n 0, 1) := by decide +kernel
theorem dX2_begin_16 : decode cX2_begin 16 = .ok (.getfield 52, 3) := by decide +kernel
theorem dX2_begin_19 : decode cX2_begin 19 = .ok (.getfield 56, 3) := by decide +kernel
theorem dX2_begin_22 : decode cX2_begin 22 = .ok (.iconst 0, 1) := by decide +kernel
theorem dX2_begin_23 : decode cX2_begin 23 = .ok (.aload_n 0, 1) := by decide +kernel
theorem dX2_begin_24 : decode cX2_begin 24 = .ok (.getfield 18, 3) := by decide +kernel
theorem dX2_begin_27 : decode cX2_begin 27 = .ok (.iconst 0, 1) := by decide +kernel
theorem dX2_begin_28 : decode cX2_begin 28 = .ok (.bipush 6, 2) := by decide +kernel
theorem dX2_begin_30 : decode cX2_begin 30 = .ok (.invokestatic 61, 3) := by decide +kernel
theorem dX2_begin_33 : decode cX2_begin 33 = .ok (.aload_n 0, 1) := by decide +kernel
theorem dX2_begin_34 : decode cX2_begin 34 = .ok (.getfield 25, 3) := by decide +kernel
theorem dX2_begin_37 : decode cX2_begin 37 = .ok (.iconst 0, 1) := by decide +kernel
theorem dX2_begin_38 : decode cX2_begin 38 = .ok (.invokestatic 67, 3) := by decide +kernel
theorem dX2_begin_41 : decode cX2_begin 41 = .ok (.aload_n 0, 1) := by decide +kernel
theorem dX2_begin_42 : decode cX2_begin 42 = .ok (.getfield 28, 3) := by decide +kernel
theorem dX2_begin_45 : decode cX2_begin 45 = .ok (.iconst 0, 1) := by decide +kernel
theorem dX2_begin_46 : decode cX2_begin 46 = .ok (.invokestatic 67, 3) := by decide +kernel
theorem dX2_begin_49 : decode cX2_begin 49 = .ok (.aload_n 0, 1) := by decide +kernel
theorem dX2_begin_50 : decode cX2_begin 50 = .ok (.getfield 31, 3) := by decide +kernel
theorem dX2_begin_53 : decode cX2_begin 53 = .ok (.iconst 0, 1) := by decide +kernel
theorem dX2_begin_54 : decode cX2_begin 54 = .ok (.invokestatic 67, 3) := by decide +kernel
theorem dX2_begin_57 : decode cX2_begin 57 = .ok (.aload_n 0, 1) := by decide +kernel
theorem dX2_begin_58 : decode cX2_begin 58 = .ok (.getfield 34, 3) := by decide +kernel
theorem dX2_begin_61 : decode cX2_begin 61 = .ok (.iconst 0, 1) := by decide +kernel
theorem dX2_begin_62 : decode cX2_begin 62 = .ok (.invokestatic 67, 3) := by decide +kernel
theorem dX2_begin_65 : decode cX2_begin 65 = .ok (.aload_n 0, 1) := by decide +kernel
theorem dX2_begin_66 : decode cX2_begin 66 = .ok (.getfield 37, 3) := by decide +kernel
theorem dX2_begin_69 : decode cX2_begin 69 = .ok (.iconst 0, 1) := by decide +kernel
theorem dX2_begin_70 : decode cX2_begin 70 = .ok (.invokestatic 67, 3) := by decide +kernel
theorem dX2_begin_73 : decode cX2_begin 73 = .ok (.aload_n 0, 1) := by decide +kernel
theorem dX2_begin_74 : decode cX2_begin 74 = .ok (.getfield 52, 3) := by decide +kernel
theorem dX2_begin_77 : decode cX2_begin 77 = .ok (.getfield 73, 3) := by decide +kernel
theorem dX2_begin_80 : decode cX2_begin 80 = .ok (.iconst 0, 1) := by decide +kernel
theorem dX2_begin_81 : decode cX2_begin 81 = .ok (.aload_n 0, 1) := by decide +kernel
theorem dX2_begin_82 : decode cX2_begin 82 = .ok (.getfield 40, 3) := by decide +kernel
theorem dX2_begin_85 : decode cX2_begin 85 = .ok (.iconst 0, 1) := by decide +kernel
theorem dX2_begin_86 : decode cX2_begin 86 = .ok (.bipush 40, 2) := by decide +kernel
theorem dX2_begin_88 : decode cX2_begin 88 = .ok (.invokestatic 61, 3) := by decide +kernel
theorem dX2_begin_91 : decode cX2_begin 91 = .ok (.aload_n 0, 1) := by decide +kernel
theorem dX2_begin_92 : decode cX2_begin 92 = .ok (.getfield 52, 3) := by decide +kernel
theorem dX2_begin_95 : decode cX2_begin 95 = .ok (.getfield 76, 3) := by decide +kernel
theorem dX2_begin_98 : decode cX2_begin 98 = .ok (.iconst 0, 1) := by decide +kernel
theorem dX2_begin_99 : decode cX2_begin 99 = .ok (.aload_n 0, 1) := by decide +kernel
theorem dX2_begin_100 : decode cX2_begin 100 = .ok (.getfield 43, 3) := by decide +kernel
theorem dX2_begin_103 : decode cX2_begin 103 = .ok (.iconst 0, 1) := by decide +kernel
theorem dX2_begin_104 : decode cX2_begin 104 = .ok (.bipush 40, 2) := by decide +kernel
theorem dX2_begin_106 : decode cX2_begin 106 = .ok (.invokestatic 61, 3) := by decide +kernel
theorem dX2_begin_109 : decode cX2_begin 109 = .ok (.aload_n 0, 1) := by decide +kernel
theorem dX2_begin_110 : decode cX2_begin 110 = .ok (.getfield 46, 3) := by decide +kernel
theorem dX2_begin_113 : decode cX2_begin 113 = .ok (.iconst 0, 1) := by decide +kernel
theorem dX2_begin_114 : decode cX2_begin 114 = .ok (.invokestatic 67, 3) := by decide +kernel
theorem dX2_begin_117 : decode cX2_begin 117 = .ok (.aload_n 0, 1) := by decide +kernel
theorem dX2_begin_118 : decode cX2_begin 118 = .ok (.getfield 49, 3) := by decide +kernel
theorem dX2_begin_121 : decode cX2_begin 121 = .ok (.iconst 0, 1) := by decide +kernel
theorem dX2_begin_122 : decode cX2_begin 122 = .ok (.invokestatic 67, 3) := by decide +kernel
theorem dX2_begin_125 : decode cX2_begin 125 = .ok (.return_, 1) := by decide +kernel
set_option maxRecDepth 20000 in
theorem ggX2_copyFrom_J7_fill_53178 : GoodIn wsX2_copyFrom wsJ7_fill_53178 := goodIn_r _ [23] (by decide +kernel) (by decide +kernel)
set_option maxRecDepth 20000 in
theorem gX2_copyFrom_J7_fill_53178 : GoodIn wsX2_copyFrom (va_wsS RX2 67 yJ7_fill_53178 wsJ7_fill_53178) := goodIn_app (goodIn_of _ (by decide +kernel)) ggX2_copyFrom_J7_fill_53178
theorem dX2_copyFrom_0 : decode cX2_copyFrom 0 = .ok (.aload_n 0, 1) := by decide +kernel
theorem dX2_copyFrom_1 : decode cX2_copyFrom 1 = .ok (.aload_n 1, 1) := by decide +kernel
theorem dX2_copyFrom_2 : decode cX2_copyFrom 2 = .ok (.getfield 52, 3) := by decide +kernel
theorem dX2_copyFrom_5 : decode cX2_copyFrom 5 = .ok (.putfield 52, 3) := by decide +kernel
theorem dX2_copyFrom_8 : decode cX2_copyFrom 8 = .ok (.aload_n 0, 1) := by decide +kernel
theorem dX2_copyFrom_9 : decode cX2_copyFrom 9 = .ok (.aload_n 1, 1) := by decide +kernel
theorem dX2_copyFrom_10 : decode cX2_copyFrom 10 = .ok (.getfield 9, 3) := by decide +kernel
theorem dX2_copyFrom_13 : decode cX2_copyFrom 13 = .ok (.putfield 9, 3) := by decide +kernel
theorem dX2_copyFrom_16 : decode cX2_copyFrom 16 = .ok (.aload_n 0, 1) := by decide +kernel
theorem dX2_copyFrom_17 : decode cX2_copyFrom 17 = .ok (.aload_n 1, 1) := by decide +kernel
theorem dX2_copyFrom_18 : decode cX2_copyFrom 18 = .ok (.getfield 15, 3) := by decide +kernel
theorem dX2_copyFrom_21 : decode cX2_copyFrom 21 = .ok (.putfield 15, 3) := by decide +kernel
theorem dX2_copyFrom_24 : decode cX2_copyFrom 24 = .ok (.aload_n 1, 1) := by decide +kernel
theorem dX2_copyFrom_25 : decode cX2_copyFrom 25 = .ok (.getfield 18, 3) := by decide +kernel
theorem dX2_copyFrom_28 : decode cX2_copyFrom 28 = .ok (.iconst 0, 1) := by decide +kernel
theorem dX2_copyFrom_29 : decode cX2_copyFrom 29 = .ok (.aload_n 0, 1) := by decide +kernel
theorem dX2_copyFrom_30 : decode cX2_copyFrom 30 = .ok (.getfield 18, 3) := by decide +kernel
theorem dX2_copyFrom_33 : decode cX2_copyFrom 33 = .ok (.iconst 0, 1) := by decide +kernel
theorem dX2_copyFrom_34 : decode cX2_copyFrom 34 = .ok (.bipush 6, 2) := by decide +kernel
theorem dX2_copyFrom_36 : decode cX2_copyFrom 36 = .ok (.invokestatic 61, 3) := by decide +kernel
theorem dX2_copyFrom_39 : decode cX2_copyFrom 39 = .ok (.aload_n 0, 1) := by decide +kernel
theorem dX2_copyFrom_40 : decode cX2_copyFrom 40 = .ok (.getfield 22, 3) := by decide +kernel
theorem dX2_copyFrom_43 : decode cX2_copyFrom 43 = .ok (.ldc 79, 2) := by decide +kernel
theorem dX2_copyFrom_45 : decode cX2_copyFrom 45 = .ok (.invokestatic 67, 3) := by decide +kernel
theorem dX2_copyFrom_48 : decode cX2_copyFrom 48 = .ok (.aload_n 1, 1) := by decide +kernel
theorem dX2_copyFrom_49 : decode cX2_copyFrom 49 = .ok (.getfield 25, 3) := by decide +kernel
theorem dX2_copyFrom_52 : decode cX2_copyFrom 52 = .ok (.iconst 0, 1) := by decide +kernel
theorem dX2_copyFrom_53 : decode cX2_copyFrom 53 = .ok (.aload_n 0, 1) := by decide +kernel
theorem dX2_copyFrom_54 : decode cX2_copyFrom 54 = .ok (.getfield 25, 3) := by decide +kernel
theorem dX2_copyFrom_57 : decode cX2_copyFrom 57 = .ok (.iconst 0, 1) := by decide +kernel
theorem dX2_copyFrom_58 : decode cX2_copyFrom 58 = .ok (.bipush 8, 2) := by decide +kernel
theorem dX2_copyFrom_60 : decode cX2_copyFrom 60 = .ok (.invokestatic 61, 3) := by decide +kernel
theorem dX2_copyFrom_63 : decode cX2_copyFrom 63 = .ok (.aload_n 1, 1) := by decide +kernel
theorem dX2_copyFrom_64 : decode cX2_copyFrom 64 = .ok (.getfield 28, 3) := by decide +kernel
theorem dX2_copyFrom_67 : decode cX2_copyFrom 67 = .ok (.iconst 0, 1) := by decide +kernel
theorem dX2_copyFrom_68 : decode cX2_copyFrom 68 = .ok (.aload_n 0, 1) := by decide +kernel
theorem dX2_copyFrom_69 : decode cX2_copyFrom 69 = .ok (.getfield 28, 3) := by decide +kernel
theorem dX2_copyFrom_72 : decode cX2_copyFrom 72 = .ok (.iconst 0, 1) := by decide +kernel
theorem dX2_copyFrom_73 : decode cX2_copyFrom 73 = .ok (.bipush 8, 2) := by decide +kernel
theorem dX2_copyFrom_75 : decode cX2_copyFrom 75 = .ok (.invokestatic 61, 3) := by decide +kernel
theorem dX2_copyFrom_78 : decode cX2_copyFrom 78 = .ok (.aload_n 1, 1) := by decide +kernel
theorem dX2_copyFrom_79 : decode cX2_copyFrom 79 = .ok (.getfield 31, 3) := by decide +kernel
theorem dX2_copyFrom_82 : decode cX2_copyFrom 82 = .ok (.iconst 0, 1) := by decide +kernel
theorem dX2_copyFrom_83 : decode cX2_copyFrom 83 = .ok (.aload_n 0, 1) := by decide +kernel
theorem dX2_copyFrom_84 : decode cX2_copyFrom 84 = .ok (.getfield 31, 3) := by decide +kernel
theorem dX2_copyFrom_87 : decode cX2_copyFrom 87 = .ok (.iconst 0, 1) := by decide +kernel
theorem dX2_copyFrom_88 : decode cX2_copyFrom 88 = .ok (.bipush 8, 2) := by decide +kernel
theorem dX2_copyFrom_90 : decode cX2_copyFrom 90 = .ok (.invokestatic 61, 3) := by decide +kernel
theorem dX2_copyFrom_93 : decode cX2_copyFrom 93 = .ok (.aload_n 1, 1) := by decide +kernel
theorem dX2_copyFrom_94 : decode cX2_copyFrom 94 = .ok (.getfield 34, 3) := by decide +kernel
theorem dX2_copyFrom_97 : decode cX2_copyFrom 97 = .ok (.iconst 0, 1) := by decide +kernel
theorem dX2_copyFrom_98 : decode cX2_copyFrom 98 = .ok (.aload_n 0, 1) := by decide +kernel
theorem dX2_copyFrom_99 : decode cX2_copyFrom 99 = .ok (.getfield 34, 3) := by decide +kernel
theorem dX2_copyFrom_102 : decode cX2_copyFrom 102 = .ok (.iconst 0, 1) := by decide +kernel
theorem dX2_copyFrom_103 : decode cX2_copyFrom 103 = .ok (.bipush 8, 2) := by decide +kernel
theorem dX2_copyFrom_105 : decode cX2_copyFrom 105 = .ok (.invokestatic 61, 3) := by decide +kernel
theorem dX2_copyFrom_108 : decode cX2_copyFrom 108 = .ok (.aload_n 1, 1) := by decide +kernel
theorem dX2_copyFrom_109 : decode cX2_copyFrom 109 = .ok (.getfield 37, 3) := by decide +kernel
theorem dX2_copyFrom_112 : decode cX2_copyFrom 112 = .ok (.iconst 0, 1) := by decide +kernel
theorem dX2_copyFrom_113 : decode cX2_copyFrom 113 = .ok (.aload_n 0, 1) := by decide +kernel
theorem dX2_copyFrom_114 : decode cX2_copyFrom 114 = .ok (.getfield 37, 3) := by decide +kernel
theorem dX2_copyFrom_117 : decode cX2_copyFrom 117 = .ok (.iconst 0, 1) := by decide +kernel
theorem dX2_copyFrom_118 : decode cX2_copyFrom 118 = .ok (.bipush 40, 2) := by decide +kernel
theorem dX2_copyFrom_120 : decode cX2_copyFrom 120 = .ok (.invokestatic 61, 3) := by decide +kernel
theorem dX2_copyFrom_123 : decode cX2_copyFrom 123 = .ok (.aload_n 1, 1) := by decide +kernel
theorem dX2_copyFrom_124 : decode cX2_copyFrom 124 = .ok (.getfield 40, 3) := by decide +kernel
theorem dX2_copyFrom_127 : decode cX2_copyFrom 127 = .ok (.iconst 0, 1) := by decide +kernel
theorem dX2_copyFrom_128 : decode cX2_copyFrom 128 = .ok (.aload_n 0, 1) := by decide +kernel
theorem dX2_copyFrom_129 : decode cX2_copyFrom 129 = .ok (.getfield 40, 3) := by decide +kernel
theorem dX2_copyFrom_132 : decode cX2_copyFrom 132 = .ok (.iconst 0, 1) := by decide +kernel
theorem dX2_copyFrom_133 : decode cX2_copyFrom 133 = .ok (.bipush 40, 2) := by decide +kernel
theorem dX2_copyFrom_135 : decode cX2_copyFrom 135 = .ok (.invokestatic 61, 3) := by decide +kernel
theorem dX2_copyFrom_138 : decode cX2_copyFrom 138 = .ok (.aload_n 1, 1) := by decide +kernel
theorem dX2_copyFrom_139 : decode cX2_copyFrom 139 = .ok (.getfield 43, 3) := by decide +kernel
theorem dX2_copyFrom_142 : decode cX2_copyFrom 142 = .ok (.iconst 0, 1) := by decide +kernel
theorem dX2_copyFrom_143 : decode cX2_copyFrom 143 = .ok (.aload_n 0, 1) := by decide +kernel
theorem dX2_copyFrom_144 : decode cX2_copyFrom 144 = .ok (.getfield 43, 3) := by decide +kernel
theorem dX2_copyFrom_147 : decode cX2_copyFrom 147 = .ok (.iconst 0, 1) := by decide +kernel
theorem dX2_copyFrom_148 : decode cX2_copyFrom 148 = .ok (.bipush 40, 2) := by decide +kernel
theorem dX2_copyFrom_150 : decode cX2_copyFrom 150 = .ok (.invokestatic 61, 3) := by decide +kernel
theorem dX2_copyFrom_153 : decode cX2_copyFrom 153 = .ok (.aload_n 1, 1) := by decide +kernel
theorem dX2_copyFrom_154 : decode cX2_copyFrom 154 = .ok (.getfield 46, 3) := by decide +kernel
theorem dX2_copyFrom_157 : decode cX2_copyFrom 157 = .ok (.iconst 0, 1) := by decide +kernel
theorem dX2_copyFrom_158 : decode cX2_copyFrom 158 = .ok (.aload_n 0, 1) := by decide +kernel
theorem dX2_copyFrom_159 : decode cX2_copyFrom 159 = .ok (.getfield 46, 3) := by decide +kernel
theorem dX2_copyFrom_162 : decode cX2_copyFrom 162 = .ok (.iconst 0, 1) := by decide +kernel
theorem dX2_copyFrom_163 : decode cX2_copyFrom 163 = .ok (.bipush 40, 2) := by decide +kernel
theorem dX2_copyFrom_165 : decode cX2_copyFrom 165 = .ok (.invokestatic 61, 3) := by decide +kernel
theorem dX2_copyFrom_168 : decode cX2_copyFrom 168 = .ok (.aload_n 1, 1) := by decide +kernel
theorem dX2_copyFrom_169 : decode cX2_copyFrom 169 = .ok (.getfield 49, 3) := by decide +kernel
theorem dX2_copyFrom_172 : decode cX2_copyFrom 172 = .ok (.iconst 0, 1) := by decide +kernel
theorem dX2_copyFrom_173 : decode cX2_copyFrom 173 = .ok (.aload_n 0, 1) := by decide +kernel
theorem dX2_copyFrom_174 : decode cX2_copyFrom 174 = .ok (.getfield 49, 3) := by decide +kernel
theorem dX2_copyFrom_177 : decode cX2_copyFrom 177 = .ok (.iconst 0, 1) := by decide +kernel
theorem dX2_copyFrom_178 : decode cX2_copyFrom 178 = .ok (.bipush 40, 2) := by decide +kernel
theorem dX2_copyFrom_180 : decode cX2_copyFrom 180 = .ok (.invokestatic 61, 3) := by decide +kernel
theorem dX2_copyFrom_183 : decode cX2_copyFrom 183 = .ok (.return_, 1) := by decide +kernel
set_option maxRecDepth 20000 in
theorem ggX2_numberOfAll_X2_journeysIn : GoodIn wsX2_numberOfAll wsX2_journeysIn := goodIn_r _ [13, 2, 4, 14, 15, 16, 17, 18, 19, 20, 21, 22, 23, 24, 25, 26, 27, 28, 29, 30, 31, 32, 33, 34, 35, 36, 37, 38, 39, 40, 41, 42, 43, 44, 45] (by decide +kernel) (by decide +kernel)
set_option maxRecDepth 20000 in
theorem gX2_numberOfAll_X2_journeysIn : GoodIn wsX2_numberOfAll (wsV RX2 95 RX2 yX2_journeysIn wsX2_journeysIn) := goodIn_app (goodIn_of _ (by decide +kernel)) ggX2_numberOfAll_X2_journeysIn
theorem dX2_numberOfAll_0 : decode cX2_numberOfAll 0 = .ok (.iload_n 1, 1) := by decide +kernel
theorem dX2_numberOfAll_1 : decode cX2_numberOfAll 1 = .ok (.tableswitch 114 0 8 #[51, 56, 64, 72, 80, 88, 96, 102, 108], 51) := by decide +kernel
theorem dX2_numberOfAll_52 : decode cX2_numberOfAll 52 = .ok (.aload_n 0, 1) := by decide +kernel
theorem dX2_numberOfAll_53 : decode cX2_numberOfAll 53 = .ok (.getfield 9, 3) := by decide +kernel
theorem dX2_numberOfAll_56 : decode cX2_numberOfAll 56 = .ok (.ireturn, 1) := by decide +kernel
theorem dX2_numberOfAll_57 : decode cX2_numberOfAll 57 = .ok (.aload_n 0, 1) := by decide +kernel
theorem dX2_numberOfAll_58 : decode cX2_numberOfAll 58 = .ok (.getfield 52, 3) := by decide +kernel
theorem dX2_numberOfAll_61 : decode cX2_numberOfAll 61 = .ok (.getfield 80, 3) := by decide +kernel
theorem dX2_numberOfAll_64 : decode cX2_numberOfAll 64 = .ok (.ireturn, 1) := by decide +kernel
theorem dX2_numberOfAll_65 : decode cX2_numberOfAll 65 = .ok (.aload_n 0, 1) := by decide +kernel
theorem dX2_numberOfAll_66 : decode cX2_numberOfAll 66 = .ok (.getfield 52, 3) := by decide +kernel
theorem dX2_numberOfAll_69 : decode cX2_numberOfAll 69 = .ok (.getfield 83, 3) := by decide +kernel
theorem dX2_numberOfAll_72 : decode cX2_numberOfAll 72 = .ok (.ireturn, 1) := by decide +kernel
theorem dX2_numberOfAll_73 : decode cX2_numberOfAll 73 = .ok (.aload_n 0, 1) := by decide +kernel
theorem dX2_numberOfAll_74 : decode cX2_numberOfAll 74 = .ok (.getfield 52, 3) := by decide +kernel
theorem dX2_numberOfAll_77 : decode cX2_numberOfAll 77 = .ok (.getfield 86, 3) := by decide +kernel
theorem dX2_numberOfAll_80 : decode cX2_numberOfAll 80 = .ok (.ireturn, 1) := by decide +kernel
theorem dX2_numberOfAll_81 : decode cX2_numberOfAll 81 = .ok (.aload_n 0, 1) := by decide +kernel
theorem dX2_numberOfAll_82 : decode cX2_numberOfAll 82 = .ok (.getfield 52, 3) := by decide +kernel
theorem dX2_numberOfAll_85 : decode cX2_numberOfAll 85 = .ok (.getfield 89, 3) := by decide +kernel
theorem dX2_numberOfAll_88 : decode cX2_numberOfAll 88 = .ok (.ireturn, 1) := by decide +kernel
theorem dX2_numberOfAll_89 : decode cX2_numberOfAll 89 = .ok (.aload_n 0, 1) := by decide +kernel
theorem dX2_numberOfAll_90 : decode cX2_numberOfAll 90 = .ok (.getfield 52, 3) := by decide +kernel
theorem dX2_numberOfAll_93 : decode cX2_numberOfAll 93 = .ok (.getfield 92, 3) := by decide +kernel
theorem dX2_numberOfAll_96 : decode cX2_numberOfAll 96 = .ok (.ireturn, 1) := by decide +kernel
theorem dX2_numberOfAll_97 : decode cX2_numberOfAll 97 = .ok (.aload_n 0, 1) := by decide +kernel
theorem dX2_numberOfAll_98 : decode cX2_numberOfAll 98 = .ok (.iconst 3, 1) := by decide +kernel
theorem dX2_numberOfAll_99 : decode cX2_numberOfAll 99 = .ok (.invokevirtual 95, 3) := by decide +kernel
theorem dX2_numberOfAll_102 : decode cX2_numberOfAll 102 = .ok (.ireturn, 1) := by decide +kernel
theorem dX2_numberOfAll_103 : decode cX2_numberOfAll 103 = .ok (.aload_n 0, 1) := by decide +kernel
theorem dX2_numberOfAll_104 : decode cX2_numberOfAll 104 = .ok (.iconst 4, 1) := by decide +kernel
theorem dX2_numberOfAll_105 : decode cX2_numberOfAll 105 = .ok (.invokevirtual 95, 3) := by decide +kernel
theorem dX2_numberOfAll_108 : decode cX2_numberOfAll 108 = .ok (.ireturn, 1) := by decide +kernel
theorem dX2_numberOfAll_109 : decode cX2_numberOfAll 109 = .ok (.aload_n 0, 1) := by decide +kernel
theorem dX2_numberOfAll_110 : decode cX2_numberOfAll 110 = .ok (.iconst 5, 1) := by decide +kernel
theorem dX2_numberOfAll_111 : decode cX2_numberOfAll 111 = .ok (.invokevirtual 95, 3) := by decide +kernel
theorem dX2_numberOfAll_114 : decode cX2_numberOfAll 114 = .ok (.ireturn, 1) := by decide +kernel
theorem dX2_numberOfAll_115 : decode cX2_numberOfAll 115 = .ok (.aload_n 0, 1) := by decide +kernel
theorem dX2_numberOfAll_116 : decode cX2_numberOfAll 116 = .ok (.getfield 15, 3) := by decide +kernel
theorem dX2_numberOfAll_119 : decode cX2_numberOfAll 119 = .ok (.ireturn, 1) := by decide +kernel
set_option maxRecDepth 20000 in
theorem ggX2_numberOfStock_X2_holdersOf : GoodIn wsX2_numberOfStock wsX2_holdersOf := goodIn_r _ [8, 2, 9, 10, 11, 12, 7, 13, 14, 15, 16, 17, 18, 19, 20, 21, 22, 23, 37, 38, 39, 40, 41, 42, 43, 44, 45, 46, 47, 48, 49, 50, 51, 52, 53, 54, 55, 56, 57, 58, 59, 60, 61, 62, 63, 64, 65, 66, 67] (by decide +kernel) (by decide +kernel)
set_option maxRecDepth 20000 in
theorem gX2_numberOfStock_X2_holdersOf : GoodIn wsX2_numberOfStock (wsV RX2 102 RX2 yX2_holdersOf wsX2_holdersOf) := goodIn_app (goodIn_of _ (by decide +kernel)) ggX2_numberOfStock_X2_holdersOf
set_option maxRecDepth 20000 in
theorem ggX2_numberOfStock_X2_amountInOpenJourneys : GoodIn wsX2_numberOfStock wsX2_amountInOpenJourneys := goodIn_r _ [27, 2, 9, 10, 11, 12, 7, 13, 14, 15, 16, 17, 18, 19, 20, 21, 22, 23, 37, 38, 39, 40, 41, 42, 43, 44, 45, 46, 47, 48, 49, 50, 51, 52, 53, 54, 55, 56, 57, 58, 59, 60, 61, 62, 63, 64, 65, 66, 67] (by decide +kernel) (by decide +kernel)
set_option maxRecDepth 20000 in
theorem gX2_numberOfStock_X2_amountInOpenJourneys : GoodIn wsX2_numberOfStock (wsV RX2 105 RX2 yX2_amountInOpenJourneys wsX2_amountInOpenJourneys) := goodIn_app (goodIn_of _ (by decide +kernel)) ggX2_numberOfStock_X2_amountInOpenJourneys
set_option maxRecDepth 20000 in
theorem ggX2_numberOfStock_X2_amountInDoneJourneys : GoodIn wsX2_numberOfStock wsX2_amountInDoneJourneys := goodIn_r _ [31, 2, 9, 14, 15, 16, 17, 7, 18, 19, 20, 21, 22, 23, 37, 38, 39, 40, 41, 42, 43, 44, 45, 46, 47, 48, 49, 50, 51, 52, 53, 54, 55, 56, 57, 58, 59, 60, 61, 62, 63, 64, 65, 66, 67] (by decide +kernel) (by decide +kernel)
set_option maxRecDepth 20000 in
theorem gX2_numberOfStock_X2_amountInDoneJourneys : GoodIn wsX2_numberOfStock (wsV RX2 108 RX2 yX2_amountInDoneJourneys wsX2_amountInDoneJourneys) := goodIn_app (goodIn_of _ (by decide +kernel)) ggX2_numberOfStock_X2_amountInDoneJourneys
set_option maxRecDepth 20000 in
theorem ggX2_numberOfStock_X2_amountWrittenOff : GoodIn wsX2_numberOfStock wsX2_amountWrittenOff := goodIn_r _ [35, 2, 36, 22, 21, 23, 37, 38, 39, 40, 41, 42, 43, 44, 45, 46, 47, 48, 49, 50, 51, 52, 53, 54, 55, 56, 57, 58, 59, 60, 61, 62, 63, 64, 65, 66, 67] (by decide +kernel) (by decide +kernel)
set_option maxRecDepth 20000 in
theorem gX2_numberOfStock_X2_amountWrittenOff : GoodIn wsX2_numberOfStock (wsV RX2 111 RX2 yX2_amountWrittenOff wsX2_amountWrittenOff) := goodIn_app (goodIn_of _ (by decide +kernel)) ggX2_numberOfStock_X2_amountWrittenOff
theorem dX2_numberOfStock_0 : decode cX2_numberOfStock 0 = .ok (.iload_n 2, 1) := by decide +kernel
theorem dX2_numberOfStock_1 : decode cX2_numberOfStock 1 = .ok (.tableswitch 70 0 4 #[35, 42, 52, 58, 64], 35) := by decide +kernel
theorem dX2_numberOfStock_36 : decode cX2_numberOfStock 36 = .ok (.aload_n 0, 1) := by decide +kernel
theorem dX2_numberOfStock_37 : decode cX2_numberOfStock 37 = .ok (.getfield 18, 3) := by decide +kernel
theorem dX2_numberOfStock_40 : decode cX2_numberOfStock 40 = .ok (.iload_n 1, 1) := by decide +kernel
theorem dX2_numberOfStock_41 : decode cX2_numberOfStock 41 = .ok (.iaload, 1) := by decide +kernel
theorem dX2_numberOfStock_42 : decode cX2_numberOfStock 42 = .ok (.ireturn, 1) := by decide +kernel
theorem dX2_numberOfStock_43 : decode cX2_numberOfStock 43 = .ok (.aload_n 0, 1) := by decide +kernel
theorem dX2_numberOfStock_44 : decode cX2_numberOfStock 44 = .ok (.getfield 52, 3) := by decide +kernel
theorem dX2_numberOfStock_47 : decode cX2_numberOfStock 47 = .ok (.getfield 99, 3) := by decide +kernel
theorem dX2_numberOfStock_50 : decode cX2_numberOfStock 50 = .ok (.iload_n 1, 1) := by decide +kernel
theorem dX2_numberOfStock_51 : decode cX2_numberOfStock 51 = .ok (.iaload, 1) := by decide +kernel
theorem dX2_numberOfStock_52 : decode cX2_numberOfStock 52 = .ok (.ireturn, 1) := by decide +kernel
theorem dX2_numberOfStock_53 : decode cX2_numberOfStock 53 = .ok (.aload_n 0, 1) := by decide +kernel
theorem dX2_numberOfStock_54 : decode cX2_numberOfStock 54 = .ok (.iload_n 1, 1) := by decide +kernel
theorem dX2_numberOfStock_55 : decode cX2_numberOfStock 55 = .ok (.invokevirtual 102, 3) := by decide +kernel
theorem dX2_numberOfStock_58 : decode cX2_numberOfStock 58 = .ok (.ireturn, 1) := by decide +kernel
theorem dX2_numberOfStock_59 : decode cX2_numberOfStock 59 = .ok (.aload_n 0, 1) := by decide +kernel
theorem dX2_numberOfStock_60 : decode cX2_numberOfStock 60 = .ok (.iload_n 1, 1) := by decide +kernel
theorem dX2_numberOfStock_61 : decode cX2_numberOfStock 61 = .ok (.invokevirtual 105, 3) := by decide +kernel
theorem dX2_numberOfStock_64 : decode cX2_numberOfStock 64 = .ok (.ireturn, 1) := by decide +kernel
theorem dX2_numberOfStock_65 : decode cX2_numberOfStock 65 = .ok (.aload_n 0, 1) := by decide +kernel
theorem dX2_numberOfStock_66 : decode cX2_numberOfStock 66 = .ok (.iload_n 1, 1) := by decide +kernel
theorem dX2_numberOfStock_67 : decode cX2_numberOfStock 67 = .ok (.invokevirtual 108, 3) := by decide +kernel
theorem dX2_numberOfStock_70 : decode cX2_numberOfStock 70 = .ok (.ireturn, 1) := by decide +kernel
theorem dX2_numberOfStock_71 : decode cX2_numberOfStock 71 = .ok (.aload_n 0, 1) := by decide +kernel
theorem dX2_numberOfStock_72 : decode cX2_numberOfStock 72 = .ok (.iload_n 1, 1) := by decide +kernel
theorem dX2_numberOfStock_73 : decode cX2_numberOfStock 73 = .ok (.invokevirtual 111, 3) := by decide +kernel
theorem dX2_numberOfStock_76 : decode cX2_numberOfStock 76 = .ok (.ireturn, 1) := by decide +kernel
set_option maxRecDepth 20000 in
theorem ggX2_numberOfJourney_X0_stepsOf : GoodIn wsX2_numberOfJourney wsX0_stepsOf := goodIn_r _ [11, 12, 13, 45, 46, 47, 48, 49, 50, 51, 52, 53, 54, 55, 56, 57, 58, 59, 60, 61] (by decide +kernel) (by decide +kernel)
set_option maxRecDepth 20000 in
theorem gX2_numberOfJourney_X0_stepsOf : GoodIn wsX2_numberOfJourney (wsV RX2 120 RX0 yX0_stepsOf wsX0_stepsOf) := goodIn_app (goodIn_of _ (by decide +kernel)) ggX2_numberOfJourney_X0_stepsOf
set_option maxRecDepth 20000 in
theorem ggX2_numberOfJourney_X2_rests : GoodIn wsX2_numberOfJourney wsX2_rests := goodIn_r _ [18, 1, 19, 20, 21, 17, 22, 31, 32, 33, 34, 35, 36, 37, 38, 39, 40, 41, 42, 43, 44] (by decide +kernel) (by decide +kernel)
set_option maxRecDepth 20000 in
theorem gX2_numberOfJourney_X2_rests : GoodIn wsX2_numberOfJourney (wsV RX2 123 RX2 yX2_rests wsX2_rests) := goodIn_app (goodIn_of _ (by decide +kernel)) ggX2_numberOfJourney_X2_rests
set_option maxRecDepth 20000 in
theorem ggX2_numberOfJourney_X2_amountOwed : GoodIn wsX2_numberOfJourney wsX2_amountOwed := goodIn_r _ [26, 1, 2, 27, 28, 29, 30, 31, 32, 33, 34, 35, 36, 37, 38, 39, 40, 41, 42, 43, 44, 45, 46, 47, 48, 49, 50, 51, 52, 53, 54, 55, 56, 57, 58, 59, 60, 61] (by decide +kernel) (by decide +kernel)
set_option maxRecDepth 20000 in
theorem gX2_numberOfJourney_X2_amountOwed : GoodIn wsX2_numberOfJourney (wsV RX2 127 RX2 yX2_amountOwed wsX2_amountOwed) := goodIn_app (goodIn_of _ (by decide +kernel)) ggX2_numberOfJourney_X2_amountOwed
theorem dX2_numberOfJourney_0 : decode cX2_numberOfJourney 0 = .ok (.iload_n 2, 1) := by decide +kernel
theorem dX2_numberOfJourney_1 : decode cX2_numberOfJourney 1 = .ok (.tableswitch 115 0 5 #[39, 46, 56, 66, 75, 96], 39) := by decide +kernel
theorem dX2_numberOfJourney_40 : decode cX2_numberOfJourney 40 = .ok (.aload_n 0, 1) := by decide +kernel
theorem dX2_numberOfJourney_41 : decode cX2_numberOfJourney 41 = .ok (.getfield 25, 3) := by decide +kernel
theorem dX2_numberOfJourney_44 : decode cX2_numberOfJourney 44 = .ok (.iload_n 1, 1) := by decide +kernel
theorem dX2_numberOfJourney_45 : decode cX2_numberOfJourney 45 = .ok (.iaload, 1) := by decide +kernel
theorem dX2_numberOfJourney_46 : decode cX2_numberOfJourney 46 = .ok (.ireturn, 1) := by decide +kernel
theorem dX2_numberOfJourney_47 : decode cX2_numberOfJourney 47 = .ok (.aload_n 0, 1) := by decide +kernel
theorem dX2_numberOfJourney_48 : decode cX2_numberOfJourney 48 = .ok (.getfield 52, 3) := by decide +kernel
theorem dX2_numberOfJourney_51 : decode cX2_numberOfJourney 51 = .ok (.getfield 114, 3) := by decide +kernel
theorem dX2_numberOfJourney_54 : decode cX2_numberOfJourney 54 = .ok (.iload_n 1, 1) := by decide +kernel
theorem dX2_numberOfJourney_55 : decode cX2_numberOfJourney 55 = .ok (.iaload, 1) := by decide +kernel
theorem dX2_numberOfJourney_56 : decode cX2_numberOfJourney 56 = .ok (.ireturn, 1) := by decide +kernel
theorem dX2_numberOfJourney_57 : decode cX2_numberOfJourney 57 = .ok (.aload_n 0, 1) := by decide +kernel
theorem dX2_numberOfJourney_58 : decode cX2_numberOfJourney 58 = .ok (.getfield 52, 3) := by decide +kernel
theorem dX2_numberOfJourney_61 : decode cX2_numberOfJourney 61 = .ok (.getfield 117, 3) := by decide +kernel
theorem dX2_numberOfJourney_64 : decode cX2_numberOfJourney 64 = .ok (.iload_n 1, 1) := by decide +kernel
theorem dX2_numberOfJourney_65 : decode cX2_numberOfJourney 65 = .ok (.iaload, 1) := by decide +kernel
theorem dX2_numberOfJourney_66 : decode cX2_numberOfJourney 66 = .ok (.ireturn, 1) := by decide +kernel
theorem dX2_numberOfJourney_67 : decode cX2_numberOfJourney 67 = .ok (.aload_n 0, 1) := by decide +kernel
theorem dX2_numberOfJourney_68 : decode cX2_numberOfJourney 68 = .ok (.getfield 52, 3) := by decide +kernel
theorem dX2_numberOfJourney_71 : decode cX2_numberOfJourney 71 = .ok (.iload_n 1, 1) := by decide +kernel
theorem dX2_numberOfJourney_72 : decode cX2_numberOfJourney 72 = .ok (.invokevirtual 120, 3) := by decide +kernel
theorem dX2_numberOfJourney_75 : decode cX2_numberOfJourney 75 = .ok (.ireturn, 1) := by decide +kernel
theorem dX2_numberOfJourney_76 : decode cX2_numberOfJourney 76 = .ok (.aload_n 0, 1) := by decide +kernel
theorem dX2_numberOfJourney_77 : decode cX2_numberOfJourney 77 = .ok (.getfield 25, 3) := by decide +kernel
theorem dX2_numberOfJourney_80 : decode cX2_numberOfJourney 80 = .ok (.iload_n 1, 1) := by decide +kernel
theorem dX2_numberOfJourney_81 : decode cX2_numberOfJourney 81 = .ok (.iaload, 1) := by decide +kernel
theorem dX2_numberOfJourney_82 : decode cX2_numberOfJourney 82 = .ok (.iconst 1, 1) := by decide +kernel
theorem dX2_numberOfJourney_83 : decode cX2_numberOfJourney 83 = .ok (.if_icmp .ne 12, 3) := by decide +kernel
theorem dX2_numberOfJourney_86 : decode cX2_numberOfJourney 86 = .ok (.aload_n 0, 1) := by decide +kernel
theorem dX2_numberOfJourney_87 : decode cX2_numberOfJourney 87 = .ok (.getfield 28, 3) := by decide +kernel
theorem dX2_numberOfJourney_90 : decode cX2_numberOfJourney 90 = .ok (.iload_n 1, 1) := by decide +kernel
theorem dX2_numberOfJourney_91 : decode cX2_numberOfJourney 91 = .ok (.iaload, 1) := by decide +kernel
theorem dX2_numberOfJourney_92 : decode cX2_numberOfJourney 92 = .ok (.goto 4, 3) := by decide +kernel
theorem dX2_numberOfJourney_95 : decode cX2_numberOfJourney 95 = .ok (.iconst (-1), 1) := by decide +kernel
theorem dX2_numberOfJourney_96 : decode cX2_numberOfJourney 96 = .ok (.ireturn, 1) := by decide +kernel
theorem dX2_numberOfJourney_97 : decode cX2_numberOfJourney 97 = .ok (.aload_n 0, 1) := by decide +kernel
theorem dX2_numberOfJourney_98 : decode cX2_numberOfJourney 98 = .ok (.iload_n 1, 1) := by decide +kernel
theorem dX2_numberOfJourney_99 : decode cX2_numberOfJourney 99 = .ok (.invokevirtual 123, 3) := by decide +kernel
theorem dX2_numberOfJourney_102 : decode cX2_numberOfJourney 102 = .ok (.ifCond .eq 12, 3) := by decide +kernel
theorem dX2_numberOfJourney_105 : decode cX2_numberOfJourney 105 = .ok (.aload_n 0, 1) := by decide +kernel
theorem dX2_numberOfJourney_106 : decode cX2_numberOfJourney 106 = .ok (.getfield 31, 3) := by decide +kernel
theorem dX2_numberOfJourney_109 : decode cX2_numberOfJourney 109 = .ok (.iload_n 1, 1) := by decide +kernel
theorem dX2_numberOfJourney_110 : decode cX2_numberOfJourney 110 = .ok (.iaload, 1) := by decide +kernel
theorem dX2_numberOfJourney_111 : decode cX2_numberOfJourney 111 = .ok (.goto 4, 3) := by decide +kernel
theorem dX2_numberOfJourney_114 : decode cX2_numberOfJourney 114 = .ok (.iconst (-1), 1) := by decide +kernel
theorem dX2_numberOfJourney_115 : decode cX2_numberOfJourney 115 = .ok (.ireturn, 1) := by decide +kernel
theorem dX2_numberOfJourney_116 : decode cX2_numberOfJourney 116 = .ok (.aload_n 0, 1) := by decide +kernel
theorem dX2_numberOfJourney_117 : decode cX2_numberOfJourney 117 = .ok (.iload_n 1, 1) := by decide +kernel
theorem dX2_numberOfJourney_118 : decode cX2_numberOfJourney 118 = .ok (.invokevirtual 127, 3) := by decide +kernel
theorem dX2_numberOfJourney_121 : decode cX2_numberOfJourney 121 = .ok (.ireturn, 1) := by decide +kernel
theorem dX2_numberOfStep_0 : decode cX2_numberOfStep 0 = .ok (.iload_n 2, 1) := by decide +kernel
theorem dX2_numberOfStep_1 : decode cX2_numberOfStep 1 = .ok (.tableswitch 93 0 5 #[39, 49, 59, 69, 79, 86], 39) := by decide +kernel
theorem dX2_numberOfStep_40 : decode cX2_numberOfStep 40 = .ok (.aload_n 0, 1) := by decide +kernel
theorem dX2_numberOfStep_41 : decode cX2_numberOfStep 41 = .ok (.getfield 52, 3) := by decide +kernel
theorem dX2_numberOfStep_44 : decode cX2_numberOfStep 44 = .ok (.getfield 130, 3) := by decide +kernel
theorem dX2_numberOfStep_47 : decode cX2_numberOfStep 47 = .ok (.iload_n 1, 1) := by decide +kernel
theorem dX2_numberOfStep_48 : decode cX2_numberOfStep 48 = .ok (.iaload, 1) := by decide +kernel
theorem dX2_numberOfStep_49 : decode cX2_numberOfStep 49 = .ok (.ireturn, 1) := by decide +kernel
theorem dX2_numberOfStep_50 : decode cX2_numberOfStep 50 = .ok (.aload_n 0, 1) := by decide +kernel
theorem dX2_numberOfStep_51 : decode cX2_numberOfStep 51 = .ok (.getfield 52, 3) := by decide +kernel
theorem dX2_numberOfStep_54 : decode cX2_numberOfStep 54 = .ok (.getfield 133, 3) := by decide +kernel
theorem dX2_numberOfStep_57 : decode cX2_numberOfStep 57 = .ok (.iload_n 1, 1) := by decide +kernel
theorem dX2_numberOfStep_58 : decode cX2_numberOfStep 58 = .ok (.iaload, 1) := by decide +kernel
theorem dX2_numberOfStep_59 : decode cX2_numberOfStep 59 = .ok (.ireturn, 1) := by decide +kernel
theorem dX2_numberOfStep_60 : decode cX2_numberOfStep 60 = .ok (.aload_n 0, 1) := by decide +kernel
theorem dX2_numberOfStep_61 : decode cX2_numberOfStep 61 = .ok (.getfield 52, 3) := by decide +kernel
theorem dX2_numberOfStep_64 : decode cX2_numberOfStep 64 = .ok (.getfield 136, 3) := by decide +kernel
theorem dX2_numberOfStep_67 : decode cX2_numberOfStep 67 = .ok (.iload_n 1, 1) := by decide +kernel
theorem dX2_numberOfStep_68 : decode cX2_numberOfStep 68 = .ok (.iaload, 1) := by decide +kernel
theorem dX2_numberOfStep_69 : decode cX2_numberOfStep 69 = .ok (.ireturn, 1) := by decide +kernel
theorem dX2_numberOfStep_70 : decode cX2_numberOfStep 70 = .ok (.aload_n 0, 1) := by decide +kernel
theorem dX2_numberOfStep_71 : decode cX2_numberOfStep 71 = .ok (.getfield 52, 3) := by decide +kernel
theorem dX2_numberOfStep_74 : decode cX2_numberOfStep 74 = .ok (.getfield 139, 3) := by decide +kernel
theorem dX2_numberOfStep_77 : decode cX2_numberOfStep 77 = .ok (.iload_n 1, 1) := by decide +kernel
theorem dX2_numberOfStep_78 : decode cX2_numberOfStep 78 = .ok (.iaload, 1) := by decide +kernel
theorem dX2_numberOfStep_79 : decode cX2_numberOfStep 79 = .ok (.ireturn, 1) := by decide +kernel
theorem dX2_numberOfStep_80 : decode cX2_numberOfStep 80 = .ok (.aload_n 0, 1) := by decide +kernel
theorem dX2_numberOfStep_81 : decode cX2_numberOfStep 81 = .ok (.getfield 37, 3) := by decide +kernel
theorem dX2_numberOfStep_84 : decode cX2_numberOfStep 84 = .ok (.iload_n 1, 1) := by decide +kernel
theorem dX2_numberOfStep_85 : decode cX2_numberOfStep 85 = .ok (.iaload, 1) := by decide +kernel
theorem dX2_numberOfStep_86 : decode cX2_numberOfStep 86 = .ok (.ireturn, 1) := by decide +kernel
theorem dX2_numberOfStep_87 : decode cX2_numberOfStep 87 = .ok (.aload_n 0, 1) := by decide +kernel
theorem dX2_numberOfStep_88 : decode cX2_numberOfStep 88 = .ok (.getfield 40, 3) := by decide +kernel
theorem dX2_numberOfStep_91 : decode cX2_numberOfStep 91 = .ok (.iload_n 1, 1) := by decide +kernel
theorem dX2_numberOfStep_92 : decode cX2_numberOfStep 92 = .ok (.iaload, 1) := by decide +kernel
theorem dX2_numberOfStep_93 : decode cX2_numberOfStep 93 = .ok (.ireturn, 1) := by decide +kernel
theorem dX2_numberOfStep_94 : decode cX2_numberOfStep 94 = .ok (.aload_n 0, 1) := by decide +kernel
theorem dX2_numberOfStep_95 : decode cX2_numberOfStep 95 = .ok (.getfield 43, 3) := by decide +kernel
theorem dX2_numberOfStep_98 : decode cX2_numberOfStep 98 = .ok (.iload_n 1, 1) := by decide +kernel
theorem dX2_numberOfStep_99 : decode cX2_numberOfStep 99 = .ok (.iaload, 1) := by decide +kernel
theorem dX2_numberOfStep_100 : decode cX2_numberOfStep 100 = .ok (.ireturn, 1) := by decide +kernel
theorem dX2_hasEnded_0 : decode cX2_hasEnded 0 = .ok (.aload_n 0, 1) := by decide +kernel
theorem dX2_hasEnded_1 : decode cX2_hasEnded 1 = .ok (.getfield 25, 3) := by decide +kernel
theorem dX2_hasEnded_4 : decode cX2_hasEnded 4 = .ok (.iload_n 1, 1) := by decide +kernel
theorem dX2_hasEnded_5 : decode cX2_hasEnded 5 = .ok (.iaload, 1) := by decide +kernel
theorem dX2_hasEnded_6 : decode cX2_hasEnded 6 = .ok (.iconst 3, 1) := by decide +kernel
theorem dX2_hasEnded_7 : decode cX2_hasEnded 7 = .ok (.if_icmp .eq 13, 3) := by decide +kernel
theorem dX2_hasEnded_10 : decode cX2_hasEnded 10 = .ok (.aload_n 0, 1) := by decide +kernel
theorem dX2_hasEnded_11 : decode cX2_hasEnded 11 = .ok (.getfield 25, 3) := by decide +kernel
theorem dX2_hasEnded_14 : decode cX2_hasEnded 14 = .ok (.iload_n 1, 1) := by decide +kernel
theorem dX2_hasEnded_15 : decode cX2_hasEnded 15 = .ok (.iaload, 1) := by decide +kernel
theorem dX2_hasEnded_16 : decode cX2_hasEnded 16 = .ok (.iconst 4, 1) := by decide +kernel
theorem dX2_hasEnded_17 : decode cX2_hasEnded 17 = .ok (.if_icmp .ne 7, 3) := by decide +kernel
theorem dX2_hasEnded_20 : decode cX2_hasEnded 20 = .ok (.iconst 1, 1) := by decide +kernel
theorem dX2_hasEnded_21 : decode cX2_hasEnded 21 = .ok (.goto 4, 3) := by decide +kernel
theorem dX2_hasEnded_24 : decode cX2_hasEnded 24 = .ok (.iconst 0, 1) := by decide +kernel
theorem dX2_hasEnded_25 : decode cX2_hasEnded 25 = .ok (.ireturn, 1) := by decide +kernel
set_option maxRecDepth 20000 in
theorem ggX2_rests_X2_hasEnded : GoodIn wsX2_rests wsX2_hasEnded := goodIn_r _ [6, 1, 7, 8, 9, 10, 11, 12, 13, 14, 15, 16, 17, 18, 19, 20] (by decide +kernel) (by decide +kernel)
set_option maxRecDepth 20000 in
theorem gX2_rests_X2_hasEnded : GoodIn wsX2_rests (wsV RX2 142 RX2 yX2_hasEnded wsX2_hasEnded) := goodIn_app (goodIn_of _ (by decide +kernel)) ggX2_rests_X2_hasEnded
theorem dX2_rests_0 : decode cX2_rests 0 = .ok (.aload_n 0, 1) := by decide +kernel
theorem dX2_rests_1 : decode cX2_rests 1 = .ok (.iload_n 1, 1) := by decide +kernel
theorem dX2_rests_2 : decode cX2_rests 2 = .ok (.invokevirtual 142, 3) := by decide +kernel
theorem dX2_rests_5 : decode cX2_rests 5 = .ok (.ifCond .ne 13, 3) := by decide +kernel
theorem dX2_rests_8 : decode cX2_rests 8 = .ok (.aload_n 0, 1) := by decide +kernel
theorem dX2_rests_9 : decode cX2_rests 9 = .ok (.getfield 25, 3) := by decide +kernel
theorem dX2_rests_12 : decode cX2_rests 12 = .ok (.iload_n 1, 1) := by decide +kernel
theorem dX2_rests_13 : decode cX2_rests 13 = .ok (.iaload, 1) := by decide +kernel
theorem dX2_rests_14 : decode cX2_rests 14 = .ok (.iconst 5, 1) := by decide +kernel
theorem dX2_rests_15 : decode cX2_rests 15 = .ok (.if_icmp .ne 7, 3) := by decide +kernel
theorem dX2_rests_18 : decode cX2_rests 18 = .ok (.iconst 1, 1) := by decide +kernel
theorem dX2_rests_19 : decode cX2_rests 19 = .ok (.goto 4, 3) := by decide +kernel
theorem dX2_rests_22 : decode cX2_rests 22 = .ok (.iconst 0, 1) := by decide +kernel
theorem dX2_rests_23 : decode cX2_rests 23 = .ok (.ireturn, 1) := by decide +kernel
set_option maxRecDepth 20000 in
theorem ggX2_endedJourneys_X2_journeysIn : GoodIn wsX2_endedJourneys wsX2_journeysIn := goodIn_r _ [5, 6, 7, 8, 9, 10, 11, 12, 13, 14, 15, 16, 17, 18, 19, 20, 21, 22, 23, 24, 25, 26, 27, 28, 29, 30, 31, 32, 33, 34, 35, 36, 37, 38, 39] (by decide +kernel) (by decide +kernel)
set_option maxRecDepth 20000 in
theorem gX2_endedJourneys_X2_journeysIn : GoodIn wsX2_endedJourneys (wsV RX2 95 RX2 yX2_journeysIn wsX2_journeysIn) := goodIn_app (goodIn_of _ (by decide +kernel)) ggX2_endedJourneys_X2_journeysIn
theorem dX2_endedJourneys_0 : decode cX2_endedJourneys 0 = .ok (.aload_n 0, 1) := by decide +kernel
theorem dX2_endedJourneys_1 : decode cX2_endedJourneys 1 = .ok (.iconst 3, 1) := by decide +kernel
theorem dX2_endedJourneys_2 : decode cX2_endedJourneys 2 = .ok (.invokevirtual 95, 3) := by decide +kernel
theorem dX2_endedJourneys_5 : decode cX2_endedJourneys 5 = .ok (.aload_n 0, 1) := by decide +kernel
theorem dX2_endedJourneys_6 : decode cX2_endedJourneys 6 = .ok (.iconst 4, 1) := by decide +kernel
theorem dX2_endedJourneys_7 : decode cX2_endedJourneys 7 = .ok (.invokevirtual 95, 3) := by decide +kernel
theorem dX2_endedJourneys_10 : decode cX2_endedJourneys 10 = .ok (.iadd, 1) := by decide +kernel
theorem dX2_endedJourneys_11 : decode cX2_endedJourneys 11 = .ok (.ireturn, 1) := by decide +kernel
theorem dX2_doneStepFromBehind_0 : decode cX2_doneStepFromBehind 0 = .ok (.iload_n 2, 1) := by decide +kernel
theorem dX2_doneStepFromBehind_1 : decode cX2_doneStepFromBehind 1 = .ok (.istore_n 3, 1) := by decide +kernel
theorem dX2_doneStepFromBehind_2 : decode cX2_doneStepFromBehind 2 = .ok (.aload_n 0, 1) := by decide +kernel
theorem dX2_doneStepFromBehind_3 : decode cX2_doneStepFromBehind 3 = .ok (.getfield 52, 3) := by decide +kernel
theorem dX2_doneStepFromBehind_6 : decode cX2_doneStepFromBehind 6 = .ok (.getfield 145, 3) := by decide +kernel
theorem dX2_doneStepFromBehind_9 : decode cX2_doneStepFromBehind 9 = .ok (.iload_n 1, 1) := by decide +kernel
theorem dX2_doneStepFromBehind_10 : decode cX2_doneStepFromBehind 10 = .ok (.iaload, 1) := by decide +kernel
theorem dX2_doneStepFromBehind_11 : decode cX2_doneStepFromBehind 11 = .ok (.iconst 1, 1) := by decide +kernel
theorem dX2_doneStepFromBehind_12 : decode cX2_doneStepFromBehind 12 = .ok (.isub, 1) := by decide +kernel
theorem dX2_doneStepFromBehind_13 : decode cX2_doneStepFromBehind 13 = .ok (.istore 4, 2) := by decide +kernel
theorem dX2_doneStepFromBehind_15 : decode cX2_doneStepFromBehind 15 = .ok (.iload 4, 2) := by decide +kernel
theorem dX2_doneStepFromBehind_17 : decode cX2_doneStepFromBehind 17 = .ok (.aload_n 0, 1) := by decide +kernel
theorem dX2_doneStepFromBehind_18 : decode cX2_doneStepFromBehind 18 = .ok (.getfield 52, 3) := by decide +kernel
theorem dX2_doneStepFromBehind_21 : decode cX2_doneStepFromBehind 21 = .ok (.getfield 148, 3) := by decide +kernel
theorem dX2_doneStepFromBehind_24 : decode cX2_doneStepFromBehind 24 = .ok (.iload_n 1, 1) := by decide +kernel
theorem dX2_doneStepFromBehind_25 : decode cX2_doneStepFromBehind 25 = .ok (.iaload, 1) := by decide +kernel
theorem dX2_doneStepFromBehind_26 : decode cX2_doneStepFromBehind 26 = .ok (.if_icmp .lt 30, 3) := by decide +kernel
theorem dX2_doneStepFromBehind_29 : decode cX2_doneStepFromBehind 29 = .ok (.aload_n 0, 1) := by decide +kernel
theorem dX2_doneStepFromBehind_30 : decode cX2_doneStepFromBehind 30 = .ok (.getfield 37, 3) := by decide +kernel
theorem dX2_doneStepFromBehind_33 : decode cX2_doneStepFromBehind 33 = .ok (.iload 4, 2) := by decide +kernel
theorem dX2_doneStepFromBehind_35 : decode cX2_doneStepFromBehind 35 = .ok (.iaload, 1) := by decide +kernel
theorem dX2_doneStepFromBehind_36 : decode cX2_doneStepFromBehind 36 = .ok (.iconst 3, 1) := by decide +kernel
theorem dX2_doneStepFromBehind_37 : decode cX2_doneStepFromBehind 37 = .ok (.if_icmp .ne 13, 3) := by decide +kernel
theorem dX2_doneStepFromBehind_40 : decode cX2_doneStepFromBehind 40 = .ok (.iload_n 3, 1) := by decide +kernel
theorem dX2_doneStepFromBehind_41 : decode cX2_doneStepFromBehind 41 = .ok (.ifCond .ne 6, 3) := by decide +kernel
theorem dX2_doneStepFromBehind_44 : decode cX2_doneStepFromBehind 44 = .ok (.iload 4, 2) := by decide +kernel
theorem dX2_doneStepFromBehind_46 : decode cX2_doneStepFromBehind 46 = .ok (.ireturn, 1) := by decide +kernel
theorem dX2_doneStepFromBehind_47 : decode cX2_doneStepFromBehind 47 = .ok (.iinc 3 (-1), 3) := by decide +kernel
theorem dX2_doneStepFromBehind_50 : decode cX2_doneStepFromBehind 50 = .ok (.iinc 4 (-1), 3) := by decide +kernel
theorem dX2_doneStepFromBehind_53 : decode cX2_doneStepFromBehind 53 = .ok (.goto (-38), 3) := by decide +kernel
theorem dX2_doneStepFromBehind_56 : decode cX2_doneStepFromBehind 56 = .ok (.iconst (-1), 1) := by decide +kernel
theorem dX2_doneStepFromBehind_57 : decode cX2_doneStepFromBehind 57 = .ok (.ireturn, 1) := by decide +kernel
theorem dX2_journeysIn_0 : decode cX2_journeysIn 0 = .ok (.iconst 0, 1) := by decide +kernel
theorem dX2_journeysIn_1 : decode cX2_journeysIn 1 = .ok (.istore_n 2, 1) := by decide +kernel
theorem dX2_journeysIn_2 : decode cX2_journeysIn 2 = .ok (.iconst 0, 1) := by decide +kernel
theorem dX2_journeysIn_3 : decode cX2_journeysIn 3 = .ok (.istore_n 3, 1) := by decide +kernel
theorem dX2_journeysIn_4 : decode cX2_journeysIn 4 = .ok (.iload_n 3, 1) := by decide +kernel
theorem dX2_journeysIn_5 : decode cX2_journeysIn 5 = .ok (.aload_n 0, 1) := by decide +kernel
theorem dX2_journeysIn_6 : decode cX2_journeysIn 6 = .ok (.getfield 52, 3) := by decide +kernel
theorem dX2_journeysIn_9 : decode cX2_journeysIn 9 = .ok (.getfield 83, 3) := by decide +kernel
theorem dX2_journeysIn_12 : decode cX2_journeysIn 12 = .ok (.if_icmp .ge 22, 3) := by decide +kernel
theorem dX2_journeysIn_15 : decode cX2_journeysIn 15 = .ok (.aload_n 0, 1) := by decide +kernel
theorem dX2_journeysIn_16 : decode cX2_journeysIn 16 = .ok (.getfield 25, 3) := by decide +kernel
theorem dX2_journeysIn_19 : decode cX2_journeysIn 19 = .ok (.iload_n 3, 1) := by decide +kernel
theorem dX2_journeysIn_20 : decode cX2_journeysIn 20 = .ok (.iaload, 1) := by decide +kernel
theorem dX2_journeysIn_21 : decode cX2_journeysIn 21 = .ok (.iload_n 1, 1) := by decide +kernel
theorem dX2_journeysIn_22 : decode cX2_journeysIn 22 = .ok (.if_icmp .ne 6, 3) := by decide +kernel
theorem dX2_journeysIn_25 : decode cX2_journeysIn 25 = .ok (.iinc 2 1, 3) := by decide +kernel
theorem dX2_journeysIn_28 : decode cX2_journeysIn 28 = .ok (.iinc 3 1, 3) := by decide +kernel
theorem dX2_journeysIn_31 : decode cX2_journeysIn 31 = .ok (.goto (-27), 3) := by decide +kernel
theorem dX2_journeysIn_34 : decode cX2_journeysIn 34 = .ok (.iload_n 2, 1) := by decide +kernel
theorem dX2_journeysIn_35 : decode cX2_journeysIn 35 = .ok (.ireturn, 1) := by decide +kernel
set_option maxRecDepth 20000 in
theorem ggX2_holdersOf_X2_hasEnded : GoodIn wsX2_holdersOf wsX2_hasEnded := goodIn_r _ [7, 8, 18, 19, 20, 21, 22, 23, 24, 25, 26, 27, 28, 29, 30, 31] (by decide +kernel) (by decide +kernel)
set_option maxRecDepth 20000 in
theorem gX2_holdersOf_X2_hasEnded : GoodIn wsX2_holdersOf (wsV RX2 142 RX2 yX2_hasEnded wsX2_hasEnded) := goodIn_app (goodIn_of _ (by decide +kernel)) ggX2_holdersOf_X2_hasEnded
set_option maxRecDepth 20000 in
theorem ggX2_holdersOf_X2_amountTakenBy : GoodIn wsX2_holdersOf wsX2_amountTakenBy := goodIn_r _ [12, 1, 13, 14, 15, 16, 17, 18, 19, 20, 21, 22, 23, 24, 25, 26, 27, 28, 29, 30, 31, 32, 33, 34, 35, 36, 37, 38, 39, 40, 41, 42, 43, 44, 45, 46, 47, 48] (by decide +kernel) (by decide +kernel)
set_option maxRecDepth 20000 in
theorem gX2_holdersOf_X2_amountTakenBy : GoodIn wsX2_holdersOf (wsV RX2 151 RX2 yX2_amountTakenBy wsX2_amountTakenBy) := goodIn_app (goodIn_of _ (by decide +kernel)) ggX2_holdersOf_X2_amountTakenBy
theorem dX2_holdersOf_0 : decode cX2_holdersOf 0 = .ok (.iconst 0, 1) := by decide +kernel
theorem dX2_holdersOf_1 : decode cX2_holdersOf 1 = .ok (.istore_n 2, 1) := by decide +kernel
theorem dX2_holdersOf_2 : decode cX2_holdersOf 2 = .ok (.iconst 0, 1) := by decide +kernel
theorem dX2_holdersOf_3 : decode cX2_holdersOf 3 = .ok (.istore_n 3, 1) := by decide +kernel
theorem dX2_holdersOf_4 : decode cX2_holdersOf 4 = .ok (.iload_n 3, 1) := by decide +kernel
theorem dX2_holdersOf_5 : decode cX2_holdersOf 5 = .ok (.aload_n 0, 1) := by decide +kernel
theorem dX2_holdersOf_6 : decode cX2_holdersOf 6 = .ok (.getfield 52, 3) := by decide +kernel
theorem dX2_holdersOf_9 : decode cX2_holdersOf 9 = .ok (.getfield 83, 3) := by decide +kernel
theorem dX2_holdersOf_12 : decode cX2_holdersOf 12 = .ok (.if_icmp .ge 29, 3) := by decide +kernel
theorem dX2_holdersOf_15 : decode cX2_holdersOf 15 = .ok (.aload_n 0, 1) := by decide +kernel
theorem dX2_holdersOf_16 : decode cX2_holdersOf 16 = .ok (.iload_n 3, 1) := by decide +kernel
theorem dX2_holdersOf_17 : decode cX2_holdersOf 17 = .ok (.invokevirtual 142, 3) := by decide +kernel
theorem dX2_holdersOf_20 : decode cX2_holdersOf 20 = .ok (.ifCond .ne 15, 3) := by decide +kernel
theorem dX2_holdersOf_23 : decode cX2_holdersOf 23 = .ok (.aload_n 0, 1) := by decide +kernel
theorem dX2_holdersOf_24 : decode cX2_holdersOf 24 = .ok (.iload_n 3, 1) := by decide +kernel
theorem dX2_holdersOf_25 : decode cX2_holdersOf 25 = .ok (.iload_n 1, 1) := by decide +kernel
theorem dX2_holdersOf_26 : decode cX2_holdersOf 26 = .ok (.invokevirtual 151, 3) := by decide +kernel
theorem dX2_holdersOf_29 : decode cX2_holdersOf 29 = .ok (.ifCond .le 6, 3) := by decide +kernel
theorem dX2_holdersOf_32 : decode cX2_holdersOf 32 = .ok (.iinc 2 1, 3) := by decide +kernel
theorem dX2_holdersOf_35 : decode cX2_holdersOf 35 = .ok (.iinc 3 1, 3) := by decide +kernel
theorem dX2_holdersOf_38 : decode cX2_holdersOf 38 = .ok (.goto (-34), 3) := by decide +kernel
theorem dX2_holdersOf_41 : decode cX2_holdersOf 41 = .ok (.iload_n 2, 1) := by decide +kernel
theorem dX2_holdersOf_42 : decode cX2_holdersOf 42 = .ok (.ireturn, 1) := by decide +kernel
set_option maxRecDepth 20000 in
theorem ggX2_amountInOpenJourneys_X2_hasEnded : GoodIn wsX2_amountInOpenJourneys wsX2_hasEnded := goodIn_r _ [7, 8, 18, 19, 20, 21, 22, 23, 24, 25, 26, 27, 28, 29, 30, 31] (by decide +kernel) (by decide +kernel)
set_option maxRecDepth 20000 in
theorem gX2_amountInOpenJourneys_X2_hasEnded : GoodIn wsX2_amountInOpenJourneys (wsV RX2 142 RX2 yX2_hasEnded wsX2_hasEnded) := goodIn_app (goodIn_of _ (by decide +kernel)) ggX2_amountInOpenJourneys_X2_hasEnded
set_option maxRecDepth 20000 in
theorem ggX2_amountInOpenJourneys_X2_amountTakenBy : GoodIn wsX2_amountInOpenJourneys wsX2_amountTakenBy := goodIn_r _ [12, 1, 13, 14, 15, 16, 17, 18, 19, 20, 21, 22, 23, 24, 25, 26, 27, 28, 29, 30, 31, 32, 33, 34, 35, 36, 37, 38, 39, 40, 41, 42, 43, 44, 45, 46, 47, 48] (by decide +kernel) (by decide +kernel)
set_option maxRecDepth 20000 in
theorem gX2_amountInOpenJourneys_X2_amountTakenBy : GoodIn wsX2_amountInOpenJourneys (wsV RX2 151 RX2 yX2_amountTakenBy wsX2_amountTakenBy) := goodIn_app (goodIn_of _ (by decide +kernel)) ggX2_amountInOpenJourneys_X2_amountTakenBy
theorem dX2_amountInOpenJourneys_0 : decode cX2_amountInOpenJourneys 0 = .ok (.iconst 0, 1) := by decide +kernel
theorem dX2_amountInOpenJourneys_1 : decode cX2_amountInOpenJourneys 1 = .ok (.istore_n 2, 1) := by decide +kernel
theorem dX2_amountInOpenJourneys_2 : decode cX2_amountInOpenJourneys 2 = .ok (.iconst 0, 1) := by decide +kernel
theorem dX2_amountInOpenJourneys_3 : decode cX2_amountInOpenJourneys 3 = .ok (.istore_n 3, 1) := by decide +kernel
theorem dX2_amountInOpenJourneys_4 : decode cX2_amountInOpenJourneys 4 = .ok (.iload_n 3, 1) := by decide +kernel
theorem dX2_amountInOpenJourneys_5 : decode cX2_amountInOpenJourneys 5 = .ok (.aload_n 0, 1) := by decide +kernel
theorem dX2_amountInOpenJourneys_6 : decode cX2_amountInOpenJourneys 6 = .ok (.getfield 52, 3) := by decide +kernel
theorem dX2_amountInOpenJourneys_9 : decode cX2_amountInOpenJourneys 9 = .ok (.getfield 83, 3) := by decide +kernel
theorem dX2_amountInOpenJourneys_12 : decode cX2_amountInOpenJourneys 12 = .ok (.if_icmp .ge 30, 3) := by decide +kernel
theorem dX2_amountInOpenJourneys_15 : decode cX2_amountInOpenJourneys 15 = .ok (.iload_n 2, 1) := by decide +kernel
theorem dX2_amountInOpenJourneys_16 : decode cX2_amountInOpenJourneys 16 = .ok (.aload_n 0, 1) := by decide +kernel
theorem dX2_amountInOpenJourneys_17 : decode cX2_amountInOpenJourneys 17 = .ok (.iload_n 3, 1) := by decide +kernel
theorem dX2_amountInOpenJourneys_18 : decode cX2_amountInOpenJourneys 18 = .ok (.invokevirtual 142, 3) := by decide +kernel
theorem dX2_amountInOpenJourneys_21 : decode cX2_amountInOpenJourneys 21 = .ok (.ifCond .eq 7, 3) := by decide +kernel
theorem dX2_amountInOpenJourneys_24 : decode cX2_amountInOpenJourneys 24 = .ok (.iconst 0, 1) := by decide +kernel
theorem dX2_amountInOpenJourneys_25 : decode cX2_amountInOpenJourneys 25 = .ok (.goto 9, 3) := by decide +kernel
theorem dX2_amountInOpenJourneys_28 : decode cX2_amountInOpenJourneys 28 = .ok (.aload_n 0, 1) := by decide +kernel
theorem dX2_amountInOpenJourneys_29 : decode cX2_amountInOpenJourneys 29 = .ok (.iload_n 3, 1) := by decide +kernel
theorem dX2_amountInOpenJourneys_30 : decode cX2_amountInOpenJourneys 30 = .ok (.iload_n 1, 1) := by decide +kernel
theorem dX2_amountInOpenJourneys_31 : decode cX2_amountInOpenJourneys 31 = .ok (.invokevirtual 151, 3) := by decide +kernel
theorem dX2_amountInOpenJourneys_34 : decode cX2_amountInOpenJourneys 34 = .ok (.iadd, 1) := by decide +kernel
theorem dX2_amountInOpenJourneys_35 : decode cX2_amountInOpenJourneys 35 = .ok (.istore_n 2, 1) := by decide +kernel
theorem dX2_amountInOpenJourneys_36 : decode cX2_amountInOpenJourneys 36 = .ok (.iinc 3 1, 3) := by decide +kernel
theorem dX2_amountInOpenJourneys_39 : decode cX2_amountInOpenJourneys 39 = .ok (.goto (-35), 3) := by decide +kernel
theorem dX2_amountInOpenJourneys_42 : decode cX2_amountInOpenJourneys 42 = .ok (.iload_n 2, 1) := by decide +kernel
theorem dX2_amountInOpenJourneys_43 : decode cX2_amountInOpenJourneys 43 = .ok (.ireturn, 1) := by decide +kernel
set_option maxRecDepth 20000 in
theorem ggX2_amountInDoneJourneys_X2_amountTakenBy : GoodIn wsX2_amountInDoneJourneys wsX2_amountTakenBy := goodIn_r _ [8, 1, 9, 10, 11, 12, 13, 14, 15, 16, 17, 18, 19, 20, 21, 22, 23, 24, 25, 26, 27, 28, 29, 30, 31, 32, 33, 34, 35, 36, 37, 38, 39, 40, 41, 42, 43, 44] (by decide +kernel) (by decide +kernel)
set_option maxRecDepth 20000 in
theorem gX2_amountInDoneJourneys_X2_amountTakenBy : GoodIn wsX2_amountInDoneJourneys (wsV RX2 151 RX2 yX2_amountTakenBy wsX2_amountTakenBy) := goodIn_app (goodIn_of _ (by decide +kernel)) ggX2_amountInDoneJourneys_X2_amountTakenBy
theorem dX2_amountInDoneJourneys_0 : decode cX2_amountInDoneJourneys 0 = .ok (.iconst 0, 1) := by decide +kernel
theorem dX2_amountInDoneJourneys_1 : decode cX2_amountInDoneJourneys 1 = .ok (.istore_n 2, 1) := by decide +kernel
theorem dX2_amountInDoneJourneys_2 : decode cX2_amountInDoneJourneys 2 = .ok (.iconst 0, 1) := by decide +kernel
theorem dX2_amountInDoneJourneys_3 : decode cX2_amountInDoneJourneys 3 = .ok (.istore_n 3, 1) := by decide +kernel
theorem dX2_amountInDoneJourneys_4 : decode cX2_amountInDoneJourneys 4 = .ok (.iload_n 3, 1) := by decide +kernel
theorem dX2_amountInDoneJourneys_5 : decode cX2_amountInDoneJourneys 5 = .ok (.aload_n 0, 1) := by decide +kernel
theorem dX2_amountInDoneJourneys_6 : decode cX2_amountInDoneJourneys 6 = .ok (.getfield 52, 3) := by decide +kernel
theorem dX2_amountInDoneJourneys_9 : decode cX2_amountInDoneJourneys 9 = .ok (.getfield 83, 3) := by decide +kernel
theorem dX2_amountInDoneJourneys_12 : decode cX2_amountInDoneJourneys 12 = .ok (.if_icmp .ge 32, 3) := by decide +kernel
theorem dX2_amountInDoneJourneys_15 : decode cX2_amountInDoneJourneys 15 = .ok (.iload_n 2, 1) := by decide +kernel
theorem dX2_amountInDoneJourneys_16 : decode cX2_amountInDoneJourneys 16 = .ok (.aload_n 0, 1) := by decide +kernel
theorem dX2_amountInDoneJourneys_17 : decode cX2_amountInDoneJourneys 17 = .ok (.getfield 25, 3) := by decide +kernel
theorem dX2_amountInDoneJourneys_20 : decode cX2_amountInDoneJourneys 20 = .ok (.iload_n 3, 1) := by decide +kernel
theorem dX2_amountInDoneJourneys_21 : decode cX2_amountInDoneJourneys 21 = .ok (.iaload, 1) := by decide +kernel
theorem dX2_amountInDoneJourneys_22 : decode cX2_amountInDoneJourneys 22 = .ok (.iconst 3, 1) := by decide +kernel
theorem dX2_amountInDoneJourneys_23 : decode cX2_amountInDoneJourneys 23 = .ok (.if_icmp .ne 12, 3) := by decide +kernel
theorem dX2_amountInDoneJourneys_26 : decode cX2_amountInDoneJourneys 26 = .ok (.aload_n 0, 1) := by decide +kernel
theorem dX2_amountInDoneJourneys_27 : decode cX2_amountInDoneJourneys 27 = .ok (.iload_n 3, 1) := by decide +kernel
theorem dX2_amountInDoneJourneys_28 : decode cX2_amountInDoneJourneys 28 = .ok (.iload_n 1, 1) := by decide +kernel
theorem dX2_amountInDoneJourneys_29 : decode cX2_amountInDoneJourneys 29 = .ok (.invokevirtual 151, 3) := by decide +kernel
theorem dX2_amountInDoneJourneys_32 : decode cX2_amountInDoneJourneys 32 = .ok (.goto 4, 3) := by decide +kernel
theorem dX2_amountInDoneJourneys_35 : decode cX2_amountInDoneJourneys 35 = .ok (.iconst 0, 1) := by decide +kernel
theorem dX2_amountInDoneJourneys_36 : decode cX2_amountInDoneJourneys 36 = .ok (.iadd, 1) := by decide +kernel
theorem dX2_amountInDoneJourneys_37 : decode cX2_amountInDoneJourneys 37 = .ok (.istore_n 2, 1) := by decide +kernel
theorem dX2_amountInDoneJourneys_38 : decode cX2_amountInDoneJourneys 38 = .ok (.iinc 3 1, 3) := by decide +kernel
theorem dX2_amountInDoneJourneys_41 : decode cX2_amountInDoneJourneys 41 = .ok (.goto (-37), 3) := by decide +kernel
theorem dX2_amountInDoneJourneys_44 : decode cX2_amountInDoneJourneys 44 = .ok (.iload_n 2, 1) := by decide +kernel
theorem dX2_amountInDoneJourneys_45 : decode cX2_amountInDoneJourneys 45 = .ok (.ireturn, 1) := by decide +kernel
theorem dX2_amountTakenBy_0 : decode cX2_amountTakenBy 0 = .ok (.iconst 0, 1) := by decide +kernel
theorem dX2_amountTakenBy_1 : decode cX2_amountTakenBy 1 = .ok (.istore_n 3, 1) := by decide +kernel
theorem dX2_amountTakenBy_2 : decode cX2_amountTakenBy 2 = .ok (.aload_n 0, 1) := by decide +kernel
theorem dX2_amountTakenBy_3 : decode cX2_amountTakenBy 3 = .ok (.getfield 52, 3) := by decide +kernel
theorem dX2_amountTakenBy_6 : decode cX2_amountTakenBy 6 = .ok (.getfield 145, 3) := by decide +kernel
theorem dX2_amountTakenBy_9 : decode cX2_amountTakenBy 9 = .ok (.iload_n 1, 1) := by decide +kernel
theorem dX2_amountTakenBy_10 : decode cX2_amountTakenBy 10 = .ok (.iaload, 1) := by decide +kernel
theorem dX2_amountTakenBy_11 : decode cX2_amountTakenBy 11 = .ok (.istore 4, 2) := by decide +kernel
theorem dX2_amountTakenBy_13 : decode cX2_amountTakenBy 13 = .ok (.aload_n 0, 1) := by decide +kernel
theorem dX2_amountTakenBy_14 : decode cX2_amountTakenBy 14 = .ok (.getfield 52, 3) := by decide +kernel
theorem dX2_amountTakenBy_17 : decode cX2_amountTakenBy 17 = .ok (.getfield 148, 3) := by decide +kernel
theorem dX2_amountTakenBy_20 : decode cX2_amountTakenBy 20 = .ok (.iload_n 1, 1) := by decide +kernel
theorem dX2_amountTakenBy_21 : decode cX2_amountTakenBy 21 = .ok (.iaload, 1) := by decide +kernel
theorem dX2_amountTakenBy_22 : decode cX2_amountTakenBy 22 = .ok (.istore 5, 2) := by decide +kernel
theorem dX2_amountTakenBy_24 : decode cX2_amountTakenBy 24 = .ok (.iload 5, 2) := by decide +kernel
theorem dX2_amountTakenBy_26 : decode cX2_amountTakenBy 26 = .ok (.iload 4, 2) := by decide +kernel
theorem dX2_amountTakenBy_28 : decode cX2_amountTakenBy 28 = .ok (.if_icmp .ge 70, 3) := by decide +kernel
theorem dX2_amountTakenBy_31 : decode cX2_amountTakenBy 31 = .ok (.aload_n 0, 1) := by decide +kernel
theorem dX2_amountTakenBy_32 : decode cX2_amountTakenBy 32 = .ok (.getfield 37, 3) := by decide +kernel
theorem dX2_amountTakenBy_35 : decode cX2_amountTakenBy 35 = .ok (.iload 5, 2) := by decide +kernel
theorem dX2_amountTakenBy_37 : decode cX2_amountTakenBy 37 = .ok (.iaload, 1) := by decide +kernel
theorem dX2_amountTakenBy_38 : decode cX2_amountTakenBy 38 = .ok (.iconst 2, 1) := by decide +kernel
theorem dX2_amountTakenBy_39 : decode cX2_amountTakenBy 39 = .ok (.if_icmp .eq 14, 3) := by decide +kernel
theorem dX2_amountTakenBy_42 : decode cX2_amountTakenBy 42 = .ok (.aload_n 0, 1) := by decide +kernel
theorem dX2_amountTakenBy_43 : decode cX2_amountTakenBy 43 = .ok (.getfield 37, 3) := by decide +kernel
theorem dX2_amountTakenBy_46 : decode cX2_amountTakenBy 46 = .ok (.iload 5, 2) := by decide +kernel
theorem dX2_amountTakenBy_48 : decode cX2_amountTakenBy 48 = .ok (.iaload, 1) := by decide +kernel
theorem dX2_amountTakenBy_49 : decode cX2_amountTakenBy 49 = .ok (.iconst 3, 1) := by decide +kernel
theorem dX2_amountTakenBy_50 : decode cX2_amountTakenBy 50 = .ok (.if_icmp .ne 7, 3) := by decide +kernel
theorem dX2_amountTakenBy_53 : decode cX2_amountTakenBy 53 = .ok (.iconst 1, 1) := by decide +kernel
theorem dX2_amountTakenBy_54 : decode cX2_amountTakenBy 54 = .ok (.goto 4, 3) := by decide +kernel
theorem dX2_amountTakenBy_57 : decode cX2_amountTakenBy 57 = .ok (.iconst 0, 1) := by decide +kernel
theorem dX2_amountTakenBy_58 : decode cX2_amountTakenBy 58 = .ok (.istore 6, 2) := by decide +kernel
theorem dX2_amountTakenBy_60 : decode cX2_amountTakenBy 60 = .ok (.iload 6, 2) := by decide +kernel
theorem dX2_amountTakenBy_62 : decode cX2_amountTakenBy 62 = .ok (.ifCond .eq 30, 3) := by decide +kernel
theorem dX2_amountTakenBy_65 : decode cX2_amountTakenBy 65 = .ok (.aload_n 0, 1) := by decide +kernel
theorem dX2_amountTakenBy_66 : decode cX2_amountTakenBy 66 = .ok (.getfield 52, 3) := by decide +kernel
theorem dX2_amountTakenBy_69 : decode cX2_amountTakenBy 69 = .ok (.getfield 133, 3) := by decide +kernel
theorem dX2_amountTakenBy_72 : decode cX2_amountTakenBy 72 = .ok (.iload 5, 2) := by decide +kernel
theorem dX2_amountTakenBy_74 : decode cX2_amountTakenBy 74 = .ok (.iaload, 1) := by decide +kernel
theorem dX2_amountTakenBy_75 : decode cX2_amountTakenBy 75 = .ok (.iload_n 2, 1) := by decide +kernel
theorem dX2_amountTakenBy_76 : decode cX2_amountTakenBy 76 = .ok (.if_icmp .ne 16, 3) := by decide +kernel
theorem dX2_amountTakenBy_79 : decode cX2_amountTakenBy 79 = .ok (.iload_n 3, 1) := by decide +kernel
theorem dX2_amountTakenBy_80 : decode cX2_amountTakenBy 80 = .ok (.aload_n 0, 1) := by decide +kernel
theorem dX2_amountTakenBy_81 : decode cX2_amountTakenBy 81 = .ok (.getfield 52, 3) := by decide +kernel
theorem dX2_amountTakenBy_84 : decode cX2_amountTakenBy 84 = .ok (.getfield 136, 3) := by decide +kernel
theorem dX2_amountTakenBy_87 : decode cX2_amountTakenBy 87 = .ok (.iload 5, 2) := by decide +kernel
theorem dX2_amountTakenBy_89 : decode cX2_amountTakenBy 89 = .ok (.iaload, 1) := by decide +kernel
theorem dX2_amountTakenBy_90 : decode cX2_amountTakenBy 90 = .ok (.iadd, 1) := by decide +kernel
theorem dX2_amountTakenBy_91 : decode cX2_amountTakenBy 91 = .ok (.istore_n 3, 1) := by decide +kernel
theorem dX2_amountTakenBy_92 : decode cX2_amountTakenBy 92 = .ok (.iinc 5 1, 3) := by decide +kernel
theorem dX2_amountTakenBy_95 : decode cX2_amountTakenBy 95 = .ok (.goto (-71), 3) := by decide +kernel
theorem dX2_amountTakenBy_98 : decode cX2_amountTakenBy 98 = .ok (.iload_n 3, 1) := by decide +kernel
theorem dX2_amountTakenBy_99 : decode cX2_amountTakenBy 99 = .ok (.ireturn, 1) := by decide +kernel
theorem dX2_amountWrittenOff_0 : decode cX2_amountWrittenOff 0 = .ok (.iconst 0, 1) := by decide +kernel
theorem dX2_amountWrittenOff_1 : decode cX2_amountWrittenOff 1 = .ok (.istore_n 2, 1) := by decide +kernel
theorem dX2_amountWrittenOff_2 : decode cX2_amountWrittenOff 2 = .ok (.iconst 0, 1) := by decide +kernel
theorem dX2_amountWrittenOff_3 : decode cX2_amountWrittenOff 3 = .ok (.istore_n 3, 1) := by decide +kernel
theorem dX2_amountWrittenOff_4 : decode cX2_amountWrittenOff 4 = .ok (.iload_n 3, 1) := by decide +kernel
theorem dX2_amountWrittenOff_5 : decode cX2_amountWrittenOff 5 = .ok (.aload_n 0, 1) := by decide +kernel
theorem dX2_amountWrittenOff_6 : decode cX2_amountWrittenOff 6 = .ok (.getfield 52, 3) := by decide +kernel
theorem dX2_amountWrittenOff_9 : decode cX2_amountWrittenOff 9 = .ok (.getfield 86, 3) := by decide +kernel
theorem dX2_amountWrittenOff_12 : decode cX2_amountWrittenOff 12 = .ok (.if_icmp .ge 45, 3) := by decide +kernel
theorem dX2_amountWrittenOff_15 : decode cX2_amountWrittenOff 15 = .ok (.aload_n 0, 1) := by decide +kernel
theorem dX2_amountWrittenOff_16 : decode cX2_amountWrittenOff 16 = .ok (.getfield 52, 3) := by decide +kernel
theorem dX2_amountWrittenOff_19 : decode cX2_amountWrittenOff 19 = .ok (.getfield 133, 3) := by decide +kernel
theorem dX2_amountWrittenOff_22 : decode cX2_amountWrittenOff 22 = .ok (.iload_n 3, 1) := by decide +kernel
theorem dX2_amountWrittenOff_23 : decode cX2_amountWrittenOff 23 = .ok (.iaload, 1) := by decide +kernel
theorem dX2_amountWrittenOff_24 : decode cX2_amountWrittenOff 24 = .ok (.iload_n 1, 1) := by decide +kernel
theorem dX2_amountWrittenOff_25 : decode cX2_amountWrittenOff 25 = .ok (.if_icmp .ne 26, 3) := by decide +kernel
theorem dX2_amountWrittenOff_28 : decode cX2_amountWrittenOff 28 = .ok (.aload_n 0, 1) := by decide +kernel
theorem dX2_amountWrittenOff_29 : decode cX2_amountWrittenOff 29 = .ok (.getfield 37, 3) := by decide +kernel
theorem dX2_amountWrittenOff_32 : decode cX2_amountWrittenOff 32 = .ok (.iload_n 3, 1) := by decide +kernel
theorem dX2_amountWrittenOff_33 : decode cX2_amountWrittenOff 33 = .ok (.iaload, 1) := by decide +kernel
theorem dX2_amountWrittenOff_34 : decode cX2_amountWrittenOff 34 = .ok (.bipush 6, 2) := by decide +kernel
theorem dX2_amountWrittenOff_36 : decode cX2_amountWrittenOff 36 = .ok (.if_icmp .ne 15, 3) := by decide +kernel
theorem dX2_amountWrittenOff_39 : decode cX2_amountWrittenOff 39 = .ok (.iload_n 2, 1) := by decide +kernel
theorem dX2_amountWrittenOff_40 : decode cX2_amountWrittenOff 40 = .ok (.aload_n 0, 1) := by decide +kernel
theorem dX2_amountWrittenOff_41 : decode cX2_amountWrittenOff 41 = .ok (.getfield 52, 3) := by decide +kernel
theorem dX2_amountWrittenOff_44 : decode cX2_amountWrittenOff 44 = .ok (.getfield 136, 3) := by decide +kernel
theorem dX2_amountWrittenOff_47 : decode cX2_amountWrittenOff 47 = .ok (.iload_n 3, 1) := by decide +kernel
theorem dX2_amountWrittenOff_48 : decode cX2_amountWrittenOff 48 = .ok (.iaload, 1) := by decide +kernel
theorem dX2_amountWrittenOff_49 : decode cX2_amountWrittenOff 49 = .ok (.iadd, 1) := by decide +kernel
theorem dX2_amountWrittenOff_50 : decode cX2_amountWrittenOff 50 = .ok (.istore_n 2, 1) := by decide +kernel
theorem dX2_amountWrittenOff_51 : decode cX2_amountWrittenOff 51 = .ok (.iinc 3 1, 3) := by decide +kernel
theorem dX2_amountWrittenOff_54 : decode cX2_amountWrittenOff 54 = .ok (.goto (-50), 3) := by decide +kernel
theorem dX2_amountWrittenOff_57 : decode cX2_amountWrittenOff 57 = .ok (.iload_n 2, 1) := by decide +kernel
theorem dX2_amountWrittenOff_58 : decode cX2_amountWrittenOff 58 = .ok (.ireturn, 1) := by decide +kernel
theorem dX2_amountOwed_0 : decode cX2_amountOwed 0 = .ok (.aload_n 0, 1) := by decide +kernel
theorem dX2_amountOwed_1 : decode cX2_amountOwed 1 = .ok (.getfield 25, 3) := by decide +kernel
theorem dX2_amountOwed_4 : decode cX2_amountOwed 4 = .ok (.iload_n 1, 1) := by decide +kernel
theorem dX2_amountOwed_5 : decode cX2_amountOwed 5 = .ok (.iaload, 1) := by decide +kernel
theorem dX2_amountOwed_6 : decode cX2_amountOwed 6 = .ok (.iconst 2, 1) := by decide +kernel
theorem dX2_amountOwed_7 : decode cX2_amountOwed 7 = .ok (.if_icmp .eq 15, 3) := by decide +kernel
theorem dX2_amountOwed_10 : decode cX2_amountOwed 10 = .ok (.aload_n 0, 1) := by decide +kernel
theorem dX2_amountOwed_11 : decode cX2_amountOwed 11 = .ok (.getfield 25, 3) := by decide +kernel
theorem dX2_amountOwed_14 : decode cX2_amountOwed 14 = .ok (.iload_n 1, 1) := by decide +kernel
theorem dX2_amountOwed_15 : decode cX2_amountOwed 15 = .ok (.iaload, 1) := by decide +kernel
theorem dX2_amountOwed_16 : decode cX2_amountOwed 16 = .ok (.iconst 5, 1) := by decide +kernel
theorem dX2_amountOwed_17 : decode cX2_amountOwed 17 = .ok (.if_icmp .eq 5, 3) := by decide +kernel
theorem dX2_amountOwed_20 : decode cX2_amountOwed 20 = .ok (.iconst 0, 1) := by decide +kernel
theorem dX2_amountOwed_21 : decode cX2_amountOwed 21 = .ok (.ireturn, 1) := by decide +kernel
theorem dX2_amountOwed_22 : decode cX2_amountOwed 22 = .ok (.iconst 0, 1) := by decide +kernel
theorem dX2_amountOwed_23 : decode cX2_amountOwed 23 = .ok (.istore_n 2, 1) := by decide +kernel
theorem dX2_amountOwed_24 : decode cX2_amountOwed 24 = .ok (.aload_n 0, 1) := by decide +kernel
theorem dX2_amountOwed_25 : decode cX2_amountOwed 25 = .ok (.getfield 52, 3) := by decide +kernel
theorem dX2_amountOwed_28 : decode cX2_amountOwed 28 = .ok (.getfield 145, 3) := by decide +kernel
theorem dX2_amountOwed_31 : decode cX2_amountOwed 31 = .ok (.iload_n 1, 1) := by decide +kernel
theorem dX2_amountOwed_32 : decode cX2_amountOwed 32 = .ok (.iaload, 1) := by decide +kernel
theorem dX2_amountOwed_33 : decode cX2_amountOwed 33 = .ok (.istore_n 3, 1) := by decide +kernel
theorem dX2_amountOwed_34 : decode cX2_amountOwed 34 = .ok (.aload_n 0, 1) := by decide +kernel
theorem dX2_amountOwed_35 : decode cX2_amountOwed 35 = .ok (.getfield 52, 3) := by decide +kernel
theorem dX2_amountOwed_38 : decode cX2_amountOwed 38 = .ok (.getfield 148, 3) := by decide +kernel
theorem dX2_amountOwed_41 : decode cX2_amountOwed 41 = .ok (.iload_n 1, 1) := by decide +kernel
theorem dX2_amountOwed_42 : decode cX2_amountOwed 42 = .ok (.iaload, 1) := by decide +kernel
theorem dX2_amountOwed_43 : decode cX2_amountOwed 43 = .ok (.istore 4, 2) := by decide +kernel
theorem dX2_amountOwed_45 : decode cX2_amountOwed 45 = .ok (.iload 4, 2) := by decide +kernel
theorem dX2_amountOwed_47 : decode cX2_amountOwed 47 = .ok (.iload_n 3, 1) := by decide +kernel
theorem dX2_amountOwed_48 : decode cX2_amountOwed 48 = .ok (.if_icmp .ge 33, 3) := by decide +kernel
theorem dX2_amountOwed_51 : decode cX2_amountOwed 51 = .ok (.aload_n 0, 1) := by decide +kernel
theorem dX2_amountOwed_52 : decode cX2_amountOwed 52 = .ok (.getfield 37, 3) := by decide +kernel
theorem dX2_amountOwed_55 : decode cX2_amountOwed 55 = .ok (.iload 4, 2) := by decide +kernel
theorem dX2_amountOwed_57 : decode cX2_amountOwed 57 = .ok (.iaload, 1) := by decide +kernel
theorem dX2_amountOwed_58 : decode cX2_amountOwed 58 = .ok (.iconst 3, 1) := by decide +kernel
theorem dX2_amountOwed_59 : decode cX2_amountOwed 59 = .ok (.if_icmp .ne 16, 3) := by decide +kernel
theorem dX2_amountOwed_62 : decode cX2_amountOwed 62 = .ok (.iload_n 2, 1) := by decide +kernel
theorem dX2_amountOwed_63 : decode cX2_amountOwed 63 = .ok (.aload_n 0, 1) := by decide +kernel
theorem dX2_amountOwed_64 : decode cX2_amountOwed 64 = .ok (.getfield 52, 3) := by decide +kernel
theorem dX2_amountOwed_67 : decode cX2_amountOwed 67 = .ok (.getfield 136, 3) := by decide +kernel
theorem dX2_amountOwed_70 : decode cX2_amountOwed 70 = .ok (.iload 4, 2) := by decide +kernel
theorem dX2_amountOwed_72 : decode cX2_amountOwed 72 = .ok (.iaload, 1) := by decide +kernel
theorem dX2_amountOwed_73 : decode cX2_amountOwed 73 = .ok (.iadd, 1) := by decide +kernel
theorem dX2_amountOwed_74 : decode cX2_amountOwed 74 = .ok (.istore_n 2, 1) := by decide +kernel
theorem dX2_amountOwed_75 : decode cX2_amountOwed 75 = .ok (.iinc 4 1, 3) := by decide +kernel
theorem dX2_amountOwed_78 : decode cX2_amountOwed 78 = .ok (.goto (-33), 3) := by decide +kernel
theorem dX2_amountOwed_81 : decode cX2_amountOwed 81 = .ok (.iload_n 2, 1) := by decide +kernel
theorem dX2_amountOwed_82 : decode cX2_amountOwed 82 = .ok (.ireturn, 1) := by decide +kernel
set_option maxRecDepth 20000 in
theorem ggX2_passTicks_X2_rests : GoodIn wsX2_passTicks wsX2_rests := goodIn_r _ [10, 11, 12, 13, 14, 9, 15, 124, 125, 126, 127, 128, 129, 130, 131, 132, 133, 134, 135, 136, 137] (by decide +kernel) (by decide +kernel)
set_option maxRecDepth 20000 in
theorem gX2_passTicks_X2_rests : GoodIn wsX2_passTicks (wsV RX2 123 RX2 yX2_rests wsX2_rests) := goodIn_app (goodIn_of _ (by decide +kernel)) ggX2_passTicks_X2_rests
set_option maxRecDepth 20000 in
theorem ggX2_passTicks_X2_nextEventTime : GoodIn wsX2_passTicks wsX2_nextEventTime := goodIn_r _ [19, 20, 21, 22, 2, 3, 4, 5, 1, 23, 24, 25, 26, 27, 28, 9, 29, 11, 30, 31, 32, 33, 34, 35, 36, 37, 38, 39, 40, 41, 42, 43, 44, 45, 124, 125, 126, 127, 128, 129, 130, 131, 132, 133, 134, 135, 136, 137, 138, 139, 140, 141, 142, 143, 144, 145, 146, 147, 148, 149, 150, 151, 152, 153, 154] (by decide +kernel) (by decide +kernel)
set_option maxRecDepth 20000 in
theorem gX2_passTicks_X2_nextEventTime : GoodIn wsX2_passTicks (wsV RX2 155 RX2 yX2_nextEventTime wsX2_nextEventTime) := goodIn_app (goodIn_of _ (by decide +kernel)) ggX2_passTicks_X2_nextEventTime
set_option maxRecDepth 20000 in
theorem ggX2_passTicks_X2_passTick : GoodIn wsX2_passTicks wsX2_passTick := goodIn_r _ [49, 21, 22, 11, 30, 1, 50, 51, 52, 9, 53, 54, 45, 35, 36, 37, 55, 56, 57, 58, 59, 60, 40, 41, 42, 43, 44, 61, 62, 63, 64, 65, 66, 67, 68, 69, 38, 39, 70, 71, 72, 73, 74, 75, 76, 77, 78, 79, 80, 12, 13, 14, 15, 81, 82, 83, 84, 85, 86, 87, 88, 89, 90, 91, 2, 3, 4, 5, 92, 93, 94, 95, 96, 97, 98, 99, 100, 101, 102, 103, 104, 105, 106, 107, 108, 109, 110, 111, 112, 113, 114, 115, 116, 117, 118, 119, 120, 121, 122, 123, 124, 125, 126, 127, 128, 129, 130, 131, 132, 133, 134, 135, 136, 137, 138, 139, 140, 141, 142, 143, 144, 145, 146, 147, 148, 149, 150, 151, 152, 153, 154] (by decide +kernel) (by decide +kernel)
set_option maxRecDepth 20000 in
theorem gX2_passTicks_X2_passTick : GoodIn wsX2_passTicks (wsV RX2 164 RX2 yX2_passTick wsX2_passTick) := goodIn_app (goodIn_of _ (by decide +kernel)) ggX2_passTicks_X2_passTick
theorem dX2_passTicks_0 : decode cX2_passTicks 0 = .ok (.aload_n 0, 1) := by decide +kernel
theorem dX2_passTicks_1 : decode cX2_passTicks 1 = .ok (.getfield 9, 3) := by decide +kernel
theorem dX2_passTicks_4 : decode cX2_passTicks 4 = .ok (.iload_n 1, 1) := by decide +kernel
theorem dX2_passTicks_5 : decode cX2_passTicks 5 = .ok (.iadd, 1) := by decide +kernel
theorem dX2_passTicks_6 : decode cX2_passTicks 6 = .ok (.istore_n 3, 1) := by decide +kernel
theorem dX2_passTicks_7 : decode cX2_passTicks 7 = .ok (.iconst 0, 1) := by decide +kernel
theorem dX2_passTicks_8 : decode cX2_passTicks 8 = .ok (.istore 4, 2) := by decide +kernel
theorem dX2_passTicks_10 : decode cX2_passTicks 10 = .ok (.iload 4, 2) := by decide +kernel
theorem dX2_passTicks_12 : decode cX2_passTicks 12 = .ok (.iload_n 1, 1) := by decide +kernel
theorem dX2_passTicks_13 : decode cX2_passTicks 13 = .ok (.if_icmp .ge 54, 3) := by decide +kernel
theorem dX2_passTicks_16 : decode cX2_passTicks 16 = .ok (.aload_n 0, 1) := by decide +kernel
theorem dX2_passTicks_17 : decode cX2_passTicks 17 = .ok (.getfield 9, 3) := by decide +kernel
theorem dX2_passTicks_20 : decode cX2_passTicks 20 = .ok (.iload_n 3, 1) := by decide +kernel
theorem dX2_passTicks_21 : decode cX2_passTicks 21 = .ok (.if_icmp .ge 46, 3) := by decide +kernel
theorem dX2_passTicks_24 : decode cX2_passTicks 24 = .ok (.iload_n 2, 1) := by decide +kernel
theorem dX2_passTicks_25 : decode cX2_passTicks 25 = .ok (.ifCond .lt 12, 3) := by decide +kernel
theorem dX2_passTicks_28 : decode cX2_passTicks 28 = .ok (.aload_n 0, 1) := by decide +kernel
theorem dX2_passTicks_29 : decode cX2_passTicks 29 = .ok (.iload_n 2, 1) := by decide +kernel
theorem dX2_passTicks_30 : decode cX2_passTicks 30 = .ok (.invokevirtual 123, 3) := by decide +kernel
theorem dX2_passTicks_33 : decode cX2_passTicks 33 = .ok (.ifCond .eq 4, 3) := by decide +kernel
theorem dX2_passTicks_36 : decode cX2_passTicks 36 = .ok (.return_, 1) := by decide +kernel
theorem dX2_passTicks_37 : decode cX2_passTicks 37 = .ok (.aload_n 0, 1) := by decide +kernel
theorem dX2_passTicks_38 : decode cX2_passTicks 38 = .ok (.iload_n 3, 1) := by decide +kernel
theorem dX2_passTicks_39 : decode cX2_passTicks 39 = .ok (.aload_n 0, 1) := by decide +kernel
theorem dX2_passTicks_40 : decode cX2_passTicks 40 = .ok (.invokevirtual 155, 3) := by decide +kernel
theorem dX2_passTicks_43 : decode cX2_passTicks 43 = .ok (.invokestatic 159, 3) := by decide +kernel
theorem dX2_passTicks_46 : decode cX2_passTicks 46 = .ok (.putfield 9, 3) := by decide +kernel
theorem dX2_passTicks_49 : decode cX2_passTicks 49 = .ok (.aload_n 0, 1) := by decide +kernel
theorem dX2_passTicks_50 : decode cX2_passTicks 50 = .ok (.getfield 9, 3) := by decide +kernel
theorem dX2_passTicks_53 : decode cX2_passTicks 53 = .ok (.iload_n 3, 1) := by decide +kernel
theorem dX2_passTicks_54 : decode cX2_passTicks 54 = .ok (.if_icmp .ge 7, 3) := by decide +kernel
theorem dX2_passTicks_57 : decode cX2_passTicks 57 = .ok (.aload_n 0, 1) := by decide +kernel
theorem dX2_passTicks_58 : decode cX2_passTicks 58 = .ok (.invokevirtual 164, 3) := by decide +kernel
theorem dX2_passTicks_61 : decode cX2_passTicks 61 = .ok (.iinc 4 1, 3) := by decide +kernel
theorem dX2_passTicks_64 : decode cX2_passTicks 64 = .ok (.goto (-54), 3) := by decide +kernel
theorem dX2_passTicks_67 : decode cX2_passTicks 67 = .ok (.return_, 1) := by decide +kernel
set_option maxRecDepth 20000 in
theorem ggX2_nextEventTime_X2_nextEventTimeOf : GoodIn wsX2_nextEventTime wsX2_nextEventTimeOf := goodIn_r _ [16, 17, 2, 18, 8, 1, 19, 20, 21, 15, 22, 23, 24, 25, 26, 27, 4, 5, 6, 7, 28, 29, 30, 31, 32, 33, 34, 35, 36, 37, 38, 39, 40, 41, 42, 43, 44, 45, 46, 47, 48, 49, 50, 51, 52, 53, 54, 55, 56, 57, 58, 59, 60, 61, 62, 63, 64] (by decide +kernel) (by decide +kernel)
set_option maxRecDepth 20000 in
theorem gX2_nextEventTime_X2_nextEventTimeOf : GoodIn wsX2_nextEventTime (wsV RX2 167 RX2 yX2_nextEventTimeOf wsX2_nextEventTimeOf) := goodIn_app (goodIn_of _ (by decide +kernel)) ggX2_nextEventTime_X2_nextEventTimeOf
theorem dX2_nextEventTime_0 : decode cX2_nextEventTime 0 = .ok (.ldc 79, 2) := by decide +kernel
theorem dX2_nextEventTime_2 : decode cX2_nextEventTime 2 = .ok (.istore_n 1, 1) := by decide +kernel
theorem dX2_nextEventTime_3 : decode cX2_nextEventTime 3 = .ok (.iconst 0, 1) := by decide +kernel
theorem dX2_nextEventTime_4 : decode cX2_nextEventTime 4 = .ok (.istore_n 2, 1) := by decide +kernel
theorem dX2_nextEventTime_5 : decode cX2_nextEventTime 5 = .ok (.iload_n 2, 1) := by decide +kernel
theorem dX2_nextEventTime_6 : decode cX2_nextEventTime 6 = .ok (.aload_n 0, 1) := by decide +kernel
theorem dX2_nextEventTime_7 : decode cX2_nextEventTime 7 = .ok (.getfield 52, 3) := by decide +kernel
theorem dX2_nextEventTime_10 : decode cX2_nextEventTime 10 = .ok (.getfield 83, 3) := by decide +kernel
theorem dX2_nextEventTime_13 : decode cX2_nextEventTime 13 = .ok (.if_icmp .ge 19, 3) := by decide +kernel
theorem dX2_nextEventTime_16 : decode cX2_nextEventTime 16 = .ok (.iload_n 1, 1) := by decide +kernel
theorem dX2_nextEventTime_17 : decode cX2_nextEventTime 17 = .ok (.aload_n 0, 1) := by decide +kernel
theorem dX2_nextEventTime_18 : decode cX2_nextEventTime 18 = .ok (.iload_n 2, 1) := by decide +kernel
theorem dX2_nextEventTime_19 : decode cX2_nextEventTime 19 = .ok (.invokevirtual 167, 3) := by decide +kernel
theorem dX2_nextEventTime_22 : decode cX2_nextEventTime 22 = .ok (.invokestatic 159, 3) := by decide +kernel
theorem dX2_nextEventTime_25 : decode cX2_nextEventTime 25 = .ok (.istore_n 1, 1) := by decide +kernel
theorem dX2_nextEventTime_26 : decode cX2_nextEventTime 26 = .ok (.iinc 2 1, 3) := by decide +kernel
theorem dX2_nextEventTime_29 : decode cX2_nextEventTime 29 = .ok (.goto (-24), 3) := by decide +kernel
theorem dX2_nextEventTime_32 : decode cX2_nextEventTime 32 = .ok (.aload_n 0, 1) := by decide +kernel
theorem dX2_nextEventTime_33 : decode cX2_nextEventTime 33 = .ok (.getfield 9, 3) := by decide +kernel
theorem dX2_nextEventTime_36 : decode cX2_nextEventTime 36 = .ok (.iload_n 1, 1) := by decide +kernel
theorem dX2_nextEventTime_37 : decode cX2_nextEventTime 37 = .ok (.invokestatic 170, 3) := by decide +kernel
theorem dX2_nextEventTime_40 : decode cX2_nextEventTime 40 = .ok (.ireturn, 1) := by decide +kernel
set_option maxRecDepth 20000 in
theorem ggX2_nextEventTimeOf_X2_nextEventTimeForward : GoodIn wsX2_nextEventTimeOf wsX2_nextEventTimeForward := goodIn_r _ [10, 5, 2, 11, 12, 13, 4, 14, 15, 16, 17, 18, 19, 20, 21, 22, 9, 23, 24, 25, 26, 27, 28, 29, 30, 31, 32, 33, 34, 35, 36, 37, 38, 39, 40, 41, 42, 43, 44, 45, 46, 47, 48, 49, 50, 51, 52, 53, 54, 55, 56] (by decide +kernel) (by decide +kernel)
set_option maxRecDepth 20000 in
theorem gX2_nextEventTimeOf_X2_nextEventTimeForward : GoodIn wsX2_nextEventTimeOf (wsV RX2 173 RX2 yX2_nextEventTimeForward wsX2_nextEventTimeForward) := goodIn_app (goodIn_of _ (by decide +kernel)) ggX2_nextEventTimeOf_X2_nextEventTimeForward
theorem dX2_nextEventTimeOf_0 : decode cX2_nextEventTimeOf 0 = .ok (.aload_n 0, 1) := by decide +kernel
theorem dX2_nextEventTimeOf_1 : decode cX2_nextEventTimeOf 1 = .ok (.getfield 25, 3) := by decide +kernel
theorem dX2_nextEventTimeOf_4 : decode cX2_nextEventTimeOf 4 = .ok (.iload_n 1, 1) := by decide +kernel
theorem dX2_nextEventTimeOf_5 : decode cX2_nextEventTimeOf 5 = .ok (.iaload, 1) := by decide +kernel
theorem dX2_nextEventTimeOf_6 : decode cX2_nextEventTimeOf 6 = .ok (.tableswitch 47 0 2 #[26, 36, 42], 26) := by decide +kernel
theorem dX2_nextEventTimeOf_32 : decode cX2_nextEventTimeOf 32 = .ok (.aload_n 0, 1) := by decide +kernel
theorem dX2_nextEventTimeOf_33 : decode cX2_nextEventTimeOf 33 = .ok (.getfield 52, 3) := by decide +kernel
theorem dX2_nextEventTimeOf_36 : decode cX2_nextEventTimeOf 36 = .ok (.getfield 114, 3) := by decide +kernel
theorem dX2_nextEventTimeOf_39 : decode cX2_nextEventTimeOf 39 = .ok (.iload_n 1, 1) := by decide +kernel
theorem dX2_nextEventTimeOf_40 : decode cX2_nextEventTimeOf 40 = .ok (.iaload, 1) := by decide +kernel
theorem dX2_nextEventTimeOf_41 : decode cX2_nextEventTimeOf 41 = .ok (.ireturn, 1) := by decide +kernel
theorem dX2_nextEventTimeOf_42 : decode cX2_nextEventTimeOf 42 = .ok (.aload_n 0, 1) := by decide +kernel
theorem dX2_nextEventTimeOf_43 : decode cX2_nextEventTimeOf 43 = .ok (.iload_n 1, 1) := by decide +kernel
theorem dX2_nextEventTimeOf_44 : decode cX2_nextEventTimeOf 44 = .ok (.invokevirtual 173, 3) := by decide +kernel
theorem dX2_nextEventTimeOf_47 : decode cX2_nextEventTimeOf 47 = .ok (.ireturn, 1) := by decide +kernel
theorem dX2_nextEventTimeOf_48 : decode cX2_nextEventTimeOf 48 = .ok (.aload_n 0, 1) := by decide +kernel
theorem dX2_nextEventTimeOf_49 : decode cX2_nextEventTimeOf 49 = .ok (.getfield 9, 3) := by decide +kernel
theorem dX2_nextEventTimeOf_52 : decode cX2_nextEventTimeOf 52 = .ok (.ireturn, 1) := by decide +kernel
theorem dX2_nextEventTimeOf_53 : decode cX2_nextEventTimeOf 53 = .ok (.ldc 79, 2) := by decide +kernel
theorem dX2_nextEventTimeOf_55 : decode cX2_nextEventTimeOf 55 = .ok (.ireturn, 1) := by decide +kernel
set_option maxRecDepth 20000 in
theorem ggX2_nextEventTimeForward_X2_isPresent : GoodIn wsX2_nextEventTimeForward wsX2_isPresent := goodIn_r _ [17, 2, 18, 19, 20, 21, 22, 23, 24, 25, 26, 27, 28, 29, 30, 31, 32, 33, 34, 35, 36, 37, 38, 39, 40, 41, 42, 43, 44, 45, 46, 47, 48, 49, 50] (by decide +kernel) (by decide +kernel)
set_option maxRecDepth 20000 in
theorem gX2_nextEventTimeForward_X2_isPresent : GoodIn wsX2_nextEventTimeForward (wsV RX2 176 RX2 yX2_isPresent wsX2_isPresent) := goodIn_app (goodIn_of _ (by decide +kernel)) ggX2_nextEventTimeForward_X2_isPresent
theorem dX2_nextEventTimeForward_0 : decode cX2_nextEventTimeForward 0 = .ok (.ldc 79, 2) := by decide +kernel
theorem dX2_nextEventTimeForward_2 : decode cX2_nextEventTimeForward 2 = .ok (.istore_n 2, 1) := by decide +kernel
theorem dX2_nextEventTimeForward_3 : decode cX2_nextEventTimeForward 3 = .ok (.aload_n 0, 1) := by decide +kernel
theorem dX2_nextEventTimeForward_4 : decode cX2_nextEventTimeForward 4 = .ok (.getfield 52, 3) := by decide +kernel
theorem dX2_nextEventTimeForward_7 : decode cX2_nextEventTimeForward 7 = .ok (.getfield 145, 3) := by decide +kernel
theorem dX2_nextEventTimeForward_10 : decode cX2_nextEventTimeForward 10 = .ok (.iload_n 1, 1) := by decide +kernel
theorem dX2_nextEventTimeForward_11 : decode cX2_nextEventTimeForward 11 = .ok (.iaload, 1) := by decide +kernel
theorem dX2_nextEventTimeForward_12 : decode cX2_nextEventTimeForward 12 = .ok (.istore_n 3, 1) := by decide +kernel
theorem dX2_nextEventTimeForward_13 : decode cX2_nextEventTimeForward 13 = .ok (.aload_n 0, 1) := by decide +kernel
theorem dX2_nextEventTimeForward_14 : decode cX2_nextEventTimeForward 14 = .ok (.getfield 52, 3) := by decide +kernel
theorem dX2_nextEventTimeForward_17 : decode cX2_nextEventTimeForward 17 = .ok (.getfield 148, 3) := by decide +kernel
theorem dX2_nextEventTimeForward_20 : decode cX2_nextEventTimeForward 20 = .ok (.iload_n 1, 1) := by decide +kernel
theorem dX2_nextEventTimeForward_21 : decode cX2_nextEventTimeForward 21 = .ok (.iaload, 1) := by decide +kernel
theorem dX2_nextEventTimeForward_22 : decode cX2_nextEventTimeForward 22 = .ok (.istore 4, 2) := by decide +kernel
theorem dX2_nextEventTimeForward_24 : decode cX2_nextEventTimeForward 24 = .ok (.iload 4, 2) := by decide +kernel
theorem dX2_nextEventTimeForward_26 : decode cX2_nextEventTimeForward 26 = .ok (.iload_n 3, 1) := by decide +kernel
theorem dX2_nextEventTimeForward_27 : decode cX2_nextEventTimeForward 27 = .ok (.if_icmp .ge 79, 3) := by decide +kernel
theorem dX2_nextEventTimeForward_30 : decode cX2_nextEventTimeForward 30 = .ok (.aload_n 0, 1) := by decide +kernel
theorem dX2_nextEventTimeForward_31 : decode cX2_nextEventTimeForward 31 = .ok (.iload_n 1, 1) := by decide +kernel
theorem dX2_nextEventTimeForward_32 : decode cX2_nextEventTimeForward 32 = .ok (.iload 4, 2) := by decide +kernel
theorem dX2_nextEventTimeForward_34 : decode cX2_nextEventTimeForward 34 = .ok (.invokevirtual 176, 3) := by decide +kernel
theorem dX2_nextEventTimeForward_37 : decode cX2_nextEventTimeForward 37 = .ok (.ifCond .eq 19, 3) := by decide +kernel
theorem dX2_nextEventTimeForward_40 : decode cX2_nextEventTimeForward 40 = .ok (.aload_n 0, 1) := by decide +kernel
theorem dX2_nextEventTimeForward_41 : decode cX2_nextEventTimeForward 41 = .ok (.getfield 37, 3) := by decide +kernel
theorem dX2_nextEventTimeForward_44 : decode cX2_nextEventTimeForward 44 = .ok (.iload 4, 2) := by decide +kernel
theorem dX2_nextEventTimeForward_46 : decode cX2_nextEventTimeForward 46 = .ok (.iaload, 1) := by decide +kernel
theorem dX2_nextEventTimeForward_47 : decode cX2_nextEventTimeForward 47 = .ok (.iconst 1, 1) := by decide +kernel
theorem dX2_nextEventTimeForward_48 : decode cX2_nextEventTimeForward 48 = .ok (.if_icmp .ne 8, 3) := by decide +kernel
theorem dX2_nextEventTimeForward_51 : decode cX2_nextEventTimeForward 51 = .ok (.aload_n 0, 1) := by decide +kernel
theorem dX2_nextEventTimeForward_52 : decode cX2_nextEventTimeForward 52 = .ok (.getfield 9, 3) := by decide +kernel
theorem dX2_nextEventTimeForward_55 : decode cX2_nextEventTimeForward 55 = .ok (.ireturn, 1) := by decide +kernel
theorem dX2_nextEventTimeForward_56 : decode cX2_nextEventTimeForward 56 = .ok (.aload_n 0, 1) := by decide +kernel
theorem dX2_nextEventTimeForward_57 : decode cX2_nextEventTimeForward 57 = .ok (.iload_n 1, 1) := by decide +kernel
theorem dX2_nextEventTimeForward_58 : decode cX2_nextEventTimeForward 58 = .ok (.iload 4, 2) := by decide +kernel
theorem dX2_nextEventTimeForward_60 : decode cX2_nextEventTimeForward 60 = .ok (.invokevirtual 176, 3) := by decide +kernel
theorem dX2_nextEventTimeForward_63 : decode cX2_nextEventTimeForward 63 = .ok (.ifCond .eq 37, 3) := by decide +kernel
theorem dX2_nextEventTimeForward_66 : decode cX2_nextEventTimeForward 66 = .ok (.aload_n 0, 1) := by decide +kernel
theorem dX2_nextEventTimeForward_67 : decode cX2_nextEventTimeForward 67 = .ok (.getfield 37, 3) := by decide +kernel
theorem dX2_nextEventTimeForward_70 : decode cX2_nextEventTimeForward 70 = .ok (.iload 4, 2) := by decide +kernel
theorem dX2_nextEventTimeForward_72 : decode cX2_nextEventTimeForward 72 = .ok (.iaload, 1) := by decide +kernel
theorem dX2_nextEventTimeForward_73 : decode cX2_nextEventTimeForward 73 = .ok (.iconst 2, 1) := by decide +kernel
theorem dX2_nextEventTimeForward_74 : decode cX2_nextEventTimeForward 74 = .ok (.if_icmp .ne 26, 3) := by decide +kernel
theorem dX2_nextEventTimeForward_77 : decode cX2_nextEventTimeForward 77 = .ok (.iload_n 2, 1) := by decide +kernel
theorem dX2_nextEventTimeForward_78 : decode cX2_nextEventTimeForward 78 = .ok (.aload_n 0, 1) := by decide +kernel
theorem dX2_nextEventTimeForward_79 : decode cX2_nextEventTimeForward 79 = .ok (.getfield 46, 3) := by decide +kernel
theorem dX2_nextEventTimeForward_82 : decode cX2_nextEventTimeForward 82 = .ok (.iload 4, 2) := by decide +kernel
theorem dX2_nextEventTimeForward_84 : decode cX2_nextEventTimeForward 84 = .ok (.iaload, 1) := by decide +kernel
theorem dX2_nextEventTimeForward_85 : decode cX2_nextEventTimeForward 85 = .ok (.aload_n 0, 1) := by decide +kernel
theorem dX2_nextEventTimeForward_86 : decode cX2_nextEventTimeForward 86 = .ok (.getfield 52, 3) := by decide +kernel
theorem dX2_nextEventTimeForward_89 : decode cX2_nextEventTimeForward 89 = .ok (.getfield 139, 3) := by decide +kernel
theorem dX2_nextEventTimeForward_92 : decode cX2_nextEventTimeForward 92 = .ok (.iload 4, 2) := by decide +kernel
theorem dX2_nextEventTimeForward_94 : decode cX2_nextEventTimeForward 94 = .ok (.iaload, 1) := by decide +kernel
theorem dX2_nextEventTimeForward_95 : decode cX2_nextEventTimeForward 95 = .ok (.iadd, 1) := by decide +kernel
theorem dX2_nextEventTimeForward_96 : decode cX2_nextEventTimeForward 96 = .ok (.invokestatic 159, 3) := by decide +kernel
theorem dX2_nextEventTimeForward_99 : decode cX2_nextEventTimeForward 99 = .ok (.istore_n 2, 1) := by decide +kernel
theorem dX2_nextEventTimeForward_100 : decode cX2_nextEventTimeForward 100 = .ok (.iinc 4 1, 3) := by decide +kernel
theorem dX2_nextEventTimeForward_103 : decode cX2_nextEventTimeForward 103 = .ok (.goto (-79), 3) := by decide +kernel
theorem dX2_nextEventTimeForward_106 : decode cX2_nextEventTimeForward 106 = .ok (.iload_n 2, 1) := by decide +kernel
theorem dX2_nextEventTimeForward_107 : decode cX2_nextEventTimeForward 107 = .ok (.ldc 79, 2) := by decide +kernel
theorem dX2_nextEventTimeForward_109 : decode cX2_nextEventTimeForward 109 = .ok (.if_icmp .ne 10, 3) := by decide +kernel
theorem dX2_nextEventTimeForward_112 : decode cX2_nextEventTimeForward 112 = .ok (.aload_n 0, 1) := by decide +kernel
theorem dX2_nextEventTimeForward_113 : decode cX2_nextEventTimeForward 113 = .ok (.getfield 9, 3) := by decide +kernel
theorem dX2_nextEventTimeForward_116 : decode cX2_nextEventTimeForward 116 = .ok (.goto 4, 3) := by decide +kernel
theorem dX2_nextEventTimeForward_119 : decode cX2_nextEventTimeForward 119 = .ok (.iload_n 2, 1) := by decide +kernel
theorem dX2_nextEventTimeForward_120 : decode cX2_nextEventTimeForward 120 = .ok (.ireturn, 1) := by decide +kernel
set_option maxRecDepth 20000 in
theorem ggX2_passTick_X2_enterStage : GoodIn wsX2_passTick wsX2_enterStage := goodIn_r _ [10, 1, 11, 12, 13, 14, 15, 16, 17, 18, 19, 9, 20, 3, 21, 5, 22, 23, 24, 25, 26, 100, 101, 102, 103, 104, 105, 106, 107, 108, 109, 110, 111, 112, 113, 114, 115, 116, 117, 118, 119, 120, 121, 122, 123, 124, 125, 126, 127, 128, 129, 130] (by decide +kernel) (by decide +kernel)
set_option maxRecDepth 20000 in
theorem gX2_passTick_X2_enterStage : GoodIn wsX2_passTick (wsV RX2 180 RX2 yX2_enterStage wsX2_enterStage) := goodIn_app (goodIn_of _ (by decide +kernel)) ggX2_passTick_X2_enterStage
set_option maxRecDepth 20000 in
theorem ggX2_passTick_X2_moveForward : GoodIn wsX2_passTick wsX2_moveForward := goodIn_r _ [30, 1, 13, 14, 12, 3, 31, 22, 23, 24, 9, 25, 26, 32, 33, 34, 35, 15, 5, 36, 37, 38, 39, 40, 41, 42, 43, 44, 45, 46, 47, 48, 2, 49, 50, 51, 52, 53, 54, 55, 56, 16, 57, 58, 59, 60, 61, 62, 63, 64, 65, 66, 67, 68, 69, 70, 71, 72, 73, 74, 75, 76, 77, 78, 79, 80, 81, 82, 83, 84, 6, 7, 8, 10, 11, 17, 18, 19, 20, 21, 100, 101, 102, 103, 104, 105, 106, 107, 108, 109, 110, 111, 112, 113, 114, 115, 116, 117, 118, 119, 120, 121, 122, 123, 124, 125, 126, 127, 128, 129, 130] (by decide +kernel) (by decide +kernel)
set_option maxRecDepth 20000 in
theorem gX2_passTick_X2_moveForward : GoodIn wsX2_passTick (wsV RX2 184 RX2 yX2_moveForward wsX2_moveForward) := goodIn_app (goodIn_of _ (by decide +kernel)) ggX2_passTick_X2_moveForward
set_option maxRecDepth 20000 in
theorem ggX2_passTick_X2_undoLastStep : GoodIn wsX2_passTick wsX2_undoLastStep := goodIn_r _ [88, 89, 90, 31, 1, 91, 92, 93, 94, 9, 95, 13, 14, 15, 17, 18, 19, 20, 3, 21, 5, 96, 97, 98, 99, 62, 38, 44, 100, 101, 102, 103, 104, 105, 106, 107, 108, 109, 110, 111, 112, 113, 114, 115, 116, 117, 118, 119, 120, 121, 122, 123, 124, 125, 126, 127, 128, 129, 130] (by decide +kernel) (by decide +kernel)
set_option maxRecDepth 20000 in
theorem gX2_passTick_X2_undoLastStep : GoodIn wsX2_passTick (wsV RX2 188 RX2 yX2_undoLastStep wsX2_undoLastStep) := goodIn_app (goodIn_of _ (by decide +kernel)) ggX2_passTick_X2_undoLastStep
theorem dX2_passTick_0 : decode cX2_passTick 0 = .ok (.iconst 0, 1) := by decide +kernel
theorem dX2_passTick_1 : decode cX2_passTick 1 = .ok (.istore_n 1, 1) := by decide +kernel
theorem dX2_passTick_2 : decode cX2_passTick 2 = .ok (.iconst 0, 1) := by decide +kernel
theorem dX2_passTick_3 : decode cX2_passTick 3 = .ok (.istore_n 2, 1) := by decide +kernel
theorem dX2_passTick_4 : decode cX2_passTick 4 = .ok (.iload_n 2, 1) := by decide +kernel
theorem dX2_passTick_5 : decode cX2_passTick 5 = .ok (.aload_n 0, 1) := by decide +kernel
theorem dX2_passTick_6 : decode cX2_passTick 6 = .ok (.getfield 52, 3) := by decide +kernel
theorem dX2_passTick_9 : decode cX2_passTick 9 = .ok (.getfield 83, 3) := by decide +kernel
theorem dX2_passTick_12 : decode cX2_passTick 12 = .ok (.if_icmp .ge 66, 3) := by decide +kernel
theorem dX2_passTick_15 : decode cX2_passTick 15 = .ok (.aload_n 0, 1) := by decide +kernel
theorem dX2_passTick_16 : decode cX2_passTick 16 = .ok (.getfield 25, 3) := by decide +kernel
theorem dX2_passTick_19 : decode cX2_passTick 19 = .ok (.iload_n 2, 1) := by decide +kernel
theorem dX2_passTick_20 : decode cX2_passTick 20 = .ok (.iaload, 1) := by decide +kernel
theorem dX2_passTick_21 : decode cX2_passTick 21 = .ok (.iconst 2, 1) := by decide +kernel
theorem dX2_passTick_22 : decode cX2_passTick 22 = .ok (.if_icmp .ne 12, 3) := by decide +kernel
theorem dX2_passTick_25 : decode cX2_passTick 25 = .ok (.iload_n 1, 1) := by decide +kernel
theorem dX2_passTick_26 : decode cX2_passTick 26 = .ok (.iconst 1, 1) := by decide +kernel
theorem dX2_passTick_27 : decode cX2_passTick 27 = .ok (.iload_n 2, 1) := by decide +kernel
theorem dX2_passTick_28 : decode cX2_passTick 28 = .ok (.ishl, 1) := by decide +kernel
theorem dX2_passTick_29 : decode cX2_passTick 29 = .ok (.ior, 1) := by decide +kernel
theorem dX2_passTick_30 : decode cX2_passTick 30 = .ok (.istore_n 1, 1) := by decide +kernel
theorem dX2_passTick_31 : decode cX2_passTick 31 = .ok (.goto 41, 3) := by decide +kernel
theorem dX2_passTick_34 : decode cX2_passTick 34 = .ok (.aload_n 0, 1) := by decide +kernel
theorem dX2_passTick_35 : decode cX2_passTick 35 = .ok (.getfield 25, 3) := by decide +kernel
theorem dX2_passTick_38 : decode cX2_passTick 38 = .ok (.iload_n 2, 1) := by decide +kernel
theorem dX2_passTick_39 : decode cX2_passTick 39 = .ok (.iaload, 1) := by decide +kernel
theorem dX2_passTick_40 : decode cX2_passTick 40 = .ok (.ifCond .ne 32, 3) := by decide +kernel
theorem dX2_passTick_43 : decode cX2_passTick 43 = .ok (.aload_n 0, 1) := by decide +kernel
theorem dX2_passTick_44 : decode cX2_passTick 44 = .ok (.getfield 52, 3) := by decide +kernel
theorem dX2_passTick_47 : decode cX2_passTick 47 = .ok (.getfield 114, 3) := by decide +kernel
theorem dX2_passTick_50 : decode cX2_passTick 50 = .ok (.iload_n 2, 1) := by decide +kernel
theorem dX2_passTick_51 : decode cX2_passTick 51 = .ok (.iaload, 1) := by decide +kernel
theorem dX2_passTick_52 : decode cX2_passTick 52 = .ok (.aload_n 0, 1) := by decide +kernel
theorem dX2_passTick_53 : decode cX2_passTick 53 = .ok (.getfield 9, 3) := by decide +kernel
theorem dX2_passTick_56 : decode cX2_passTick 56 = .ok (.if_icmp .ne 16, 3) := by decide +kernel
theorem dX2_passTick_59 : decode cX2_passTick 59 = .ok (.aload_n 0, 1) := by decide +kernel
theorem dX2_passTick_60 : decode cX2_passTick 60 = .ok (.getfield 25, 3) := by decide +kernel
theorem dX2_passTick_63 : decode cX2_passTick 63 = .ok (.iload_n 2, 1) := by decide +kernel
theorem dX2_passTick_64 : decode cX2_passTick 64 = .ok (.iconst 1, 1) := by decide +kernel
theorem dX2_passTick_65 : decode cX2_passTick 65 = .ok (.iastore, 1) := by decide +kernel
theorem dX2_passTick_66 : decode cX2_passTick 66 = .ok (.aload_n 0, 1) := by decide +kernel
theorem dX2_passTick_67 : decode cX2_passTick 67 = .ok (.iload_n 2, 1) := by decide +kernel
theorem dX2_passTick_68 : decode cX2_passTick 68 = .ok (.iconst 0, 1) := by decide +kernel
theorem dX2_passTick_69 : decode cX2_passTick 69 = .ok (.invokevirtual 180, 3) := by decide +kernel
theorem dX2_passTick_72 : decode cX2_passTick 72 = .ok (.iinc 2 1, 3) := by decide +kernel
theorem dX2_passTick_75 : decode cX2_passTick 75 = .ok (.goto (-71), 3) := by decide +kernel
theorem dX2_passTick_78 : decode cX2_passTick 78 = .ok (.iconst 0, 1) := by decide +kernel
theorem dX2_passTick_79 : decode cX2_passTick 79 = .ok (.istore_n 2, 1) := by decide +kernel
theorem dX2_passTick_80 : decode cX2_passTick 80 = .ok (.iload_n 2, 1) := by decide +kernel
theorem dX2_passTick_81 : decode cX2_passTick 81 = .ok (.aload_n 0, 1) := by decide +kernel
theorem dX2_passTick_82 : decode cX2_passTick 82 = .ok (.getfield 52, 3) := by decide +kernel
theorem dX2_passTick_85 : decode cX2_passTick 85 = .ok (.getfield 83, 3) := by decide +kernel
theorem dX2_passTick_88 : decode cX2_passTick 88 = .ok (.if_icmp .ge 24, 3) := by decide +kernel
theorem dX2_passTick_91 : decode cX2_passTick 91 = .ok (.aload_n 0, 1) := by decide +kernel
theorem dX2_passTick_92 : decode cX2_passTick 92 = .ok (.getfield 25, 3) := by decide +kernel
theorem dX2_passTick_95 : decode cX2_passTick 95 = .ok (.iload_n 2, 1) := by decide +kernel
theorem dX2_passTick_96 : decode cX2_passTick 96 = .ok (.iaload, 1) := by decide +kernel
theorem dX2_passTick_97 : decode cX2_passTick 97 = .ok (.iconst 1, 1) := by decide +kernel
theorem dX2_passTick_98 : decode cX2_passTick 98 = .ok (.if_icmp .ne 8, 3) := by decide +kernel
theorem dX2_passTick_101 : decode cX2_passTick 101 = .ok (.aload_n 0, 1) := by decide +kernel
theorem dX2_passTick_102 : decode cX2_passTick 102 = .ok (.iload_n 2, 1) := by decide +kernel
theorem dX2_passTick_103 : decode cX2_passTick 103 = .ok (.invokevirtual 184, 3) := by decide +kernel
theorem dX2_passTick_106 : decode cX2_passTick 106 = .ok (.iinc 2 1, 3) := by decide +kernel
theorem dX2_passTick_109 : decode cX2_passTick 109 = .ok (.goto (-29), 3) := by decide +kernel
theorem dX2_passTick_112 : decode cX2_passTick 112 = .ok (.iconst 0, 1) := by decide +kernel
theorem dX2_passTick_113 : decode cX2_passTick 113 = .ok (.istore_n 2, 1) := by decide +kernel
theorem dX2_passTick_114 : decode cX2_passTick 114 = .ok (.iload_n 2, 1) := by decide +kernel
theorem dX2_passTick_115 : decode cX2_passTick 115 = .ok (.aload_n 0, 1) := by decide +kernel
theorem dX2_passTick_116 : decode cX2_passTick 116 = .ok (.getfield 52, 3) := by decide +kernel
theorem dX2_passTick_119 : decode cX2_passTick 119 = .ok (.getfield 83, 3) := by decide +kernel
theorem dX2_passTick_122 : decode cX2_passTick 122 = .ok (.if_icmp .ge 23, 3) := by decide +kernel
theorem dX2_passTick_125 : decode cX2_passTick 125 = .ok (.iload_n 1, 1) := by decide +kernel
theorem dX2_passTick_126 : decode cX2_passTick 126 = .ok (.iload_n 2, 1) := by decide +kernel
theorem dX2_passTick_127 : decode cX2_passTick 127 = .ok (.ishr, 1) := by decide +kernel
theorem dX2_passTick_128 : decode cX2_passTick 128 = .ok (.iconst 1, 1) := by decide +kernel
theorem dX2_passTick_129 : decode cX2_passTick 129 = .ok (.iand, 1) := by decide +kernel
theorem dX2_passTick_130 : decode cX2_passTick 130 = .ok (.iconst 1, 1) := by decide +kernel
theorem dX2_passTick_131 : decode cX2_passTick 131 = .ok (.if_icmp .ne 8, 3) := by decide +kernel
theorem dX2_passTick_134 : decode cX2_passTick 134 = .ok (.aload_n 0, 1) := by decide +kernel
theorem dX2_passTick_135 : decode cX2_passTick 135 = .ok (.iload_n 2, 1) := by decide +kernel
theorem dX2_passTick_136 : decode cX2_passTick 136 = .ok (.invokevirtual 188, 3) := by decide +kernel
theorem dX2_passTick_139 : decode cX2_passTick 139 = .ok (.iinc 2 1, 3) := by decide +kernel
theorem dX2_passTick_142 : decode cX2_passTick 142 = .ok (.goto (-28), 3) := by decide +kernel
theorem dX2_passTick_145 : decode cX2_passTick 145 = .ok (.aload_n 0, 1) := by decide +kernel
theorem dX2_passTick_146 : decode cX2_passTick 146 = .ok (.dup, 1) := by decide +kernel
theorem dX2_passTick_147 : decode cX2_passTick 147 = .ok (.getfield 9, 3) := by decide +kernel
theorem dX2_passTick_150 : decode cX2_passTick 150 = .ok (.iconst 1, 1) := by decide +kernel
theorem dX2_passTick_151 : decode cX2_passTick 151 = .ok (.iadd, 1) := by decide +kernel
theorem dX2_passTick_152 : decode cX2_passTick 152 = .ok (.putfield 9, 3) := by decide +kernel
theorem dX2_passTick_155 : decode cX2_passTick 155 = .ok (.return_, 1) := by decide +kernel
set_option maxRecDepth 20000 in
theorem ggX2_moveForward_X2_isPresent : GoodIn wsX2_moveForward wsX2_isPresent := goodIn_r _ [11, 1, 12, 4, 80, 81, 82, 83, 84, 85, 86, 87, 88, 89, 90, 91, 92, 93, 94, 95, 96, 97, 98, 99, 100, 101, 102, 103, 104, 105, 106, 107, 108, 109, 110] (by decide +kernel) (by decide +kernel)
set_option maxRecDepth 20000 in
theorem gX2_moveForward_X2_isPresent : GoodIn wsX2_moveForward (wsV RX2 176 RX2 yX2_isPresent wsX2_isPresent) := goodIn_app (goodIn_of _ (by decide +kernel)) ggX2_moveForward_X2_isPresent
set_option maxRecDepth 20000 in
theorem ggX2_moveForward_X2_moveStep : GoodIn wsX2_moveForward wsX2_moveStep := goodIn_r _ [16, 17, 18, 19, 1, 20, 21, 22, 23, 24, 25, 10, 26, 2, 3, 27, 28, 29, 30, 31, 32, 33, 34, 35, 36, 5, 37, 38, 39, 40, 41, 42, 43, 44, 45, 46, 47, 48, 49, 50, 51, 52, 53, 80, 81, 82, 83, 84, 85, 86, 87, 88, 89, 90, 91, 92, 93, 94, 95, 96, 97, 98, 99, 100, 101, 102, 103, 104, 105, 106, 107, 108, 109, 110] (by decide +kernel) (by decide +kernel)
set_option maxRecDepth 20000 in
theorem gX2_moveForward_X2_moveStep : GoodIn wsX2_moveForward (wsV RX2 191 RX2 yX2_moveStep wsX2_moveStep) := goodIn_app (goodIn_of _ (by decide +kernel)) ggX2_moveForward_X2_moveStep
set_option maxRecDepth 20000 in
theorem ggX2_moveForward_X2_stageHas : GoodIn wsX2_moveForward wsX2_stageHas := goodIn_r _ [57, 1, 2, 3, 17, 7, 8, 9, 10, 11, 12, 4, 80, 81, 82, 83, 84, 85, 86, 87, 88, 89, 90, 91, 92, 93, 94, 95, 96, 97, 98, 99, 100, 101, 102, 103, 104, 105, 106, 107, 108, 109, 110] (by decide +kernel) (by decide +kernel)
set_option maxRecDepth 20000 in
theorem gX2_moveForward_X2_stageHas : GoodIn wsX2_moveForward (wsV RX2 194 RX2 yX2_stageHas wsX2_stageHas) := goodIn_app (goodIn_of _ (by decide +kernel)) ggX2_moveForward_X2_stageHas
set_option maxRecDepth 20000 in
theorem ggX2_moveForward_X2_withdrawReadySteps : GoodIn wsX2_moveForward wsX2_withdrawReadySteps := goodIn_r _ [61, 1, 2, 3, 17, 7, 8, 9, 10, 11, 12, 4, 80, 81, 82, 83, 84, 85, 86, 87, 88, 89, 90, 91, 92, 93, 94, 95, 96, 97, 98, 99, 100, 101, 102, 103, 104, 105, 106, 107, 108, 109, 110] (by decide +kernel) (by decide +kernel)
set_option maxRecDepth 20000 in
theorem gX2_moveForward_X2_withdrawReadySteps : GoodIn wsX2_moveForward (wsV RX2 197 RX2 yX2_withdrawReadySteps wsX2_withdrawReadySteps) := goodIn_app (goodIn_of _ (by decide +kernel)) ggX2_moveForward_X2_withdrawReadySteps
set_option maxRecDepth 20000 in
theorem ggX2_moveForward_X2_stageIsOver : GoodIn wsX2_moveForward wsX2_stageIsOver := goodIn_r _ [65, 1, 2, 3, 7, 8, 9, 10, 11, 12, 4, 66, 67, 68, 69, 17, 80, 81, 82, 83, 84, 85, 86, 87, 88, 89, 90, 91, 92, 93, 94, 95, 96, 97, 98, 99, 100, 101, 102, 103, 104, 105, 106, 107, 108, 109, 110] (by decide +kernel) (by decide +kernel)
set_option maxRecDepth 20000 in
theorem gX2_moveForward_X2_stageIsOver : GoodIn wsX2_moveForward (wsV RX2 200 RX2 yX2_stageIsOver wsX2_stageIsOver) := goodIn_app (goodIn_of _ (by decide +kernel)) ggX2_moveForward_X2_stageIsOver
set_option maxRecDepth 20000 in
theorem ggX2_moveForward_X2_enterStage : GoodIn wsX2_moveForward wsX2_enterStage := goodIn_r _ [73, 1, 74, 4, 2, 3, 17, 41, 75, 76, 77, 10, 78, 5, 79, 18, 7, 8, 9, 11, 12, 80, 81, 82, 83, 84, 85, 86, 87, 88, 89, 90, 91, 92, 93, 94, 95, 96, 97, 98, 99, 100, 101, 102, 103, 104, 105, 106, 107, 108, 109, 110] (by decide +kernel) (by decide +kernel)
set_option maxRecDepth 20000 in
theorem gX2_moveForward_X2_enterStage : GoodIn wsX2_moveForward (wsV RX2 180 RX2 yX2_enterStage wsX2_enterStage) := goodIn_app (goodIn_of _ (by decide +kernel)) ggX2_moveForward_X2_enterStage
theorem dX2_moveForward_0 : decode cX2_moveForward 0 = .ok (.aload_n 0, 1) := by decide +kernel
theorem dX2_moveForward_1 : decode cX2_moveForward 1 = .ok (.getfield 52, 3) := by decide +kernel
theorem dX2_moveForward_4 : decode cX2_moveForward 4 = .ok (.getfield 145, 3) := by decide +kernel
theorem dX2_moveForward_7 : decode cX2_moveForward 7 = .ok (.iload_n 1, 1) := by decide +kernel
theorem dX2_moveForward_8 : decode cX2_moveForward 8 = .ok (.iaload, 1) := by decide +kernel
theorem dX2_moveForward_9 : decode cX2_moveForward 9 = .ok (.istore_n 2, 1) := by decide +kernel
theorem dX2_moveForward_10 : decode cX2_moveForward 10 = .ok (.aload_n 0, 1) := by decide +kernel
theorem dX2_moveForward_11 : decode cX2_moveForward 11 = .ok (.getfield 52, 3) := by decide +kernel
theorem dX2_moveForward_14 : decode cX2_moveForward 14 = .ok (.getfield 148, 3) := by decide +kernel
theorem dX2_moveForward_17 : decode cX2_moveForward 17 = .ok (.iload_n 1, 1) := by decide +kernel
theorem dX2_moveForward_18 : decode cX2_moveForward 18 = .ok (.iaload, 1) := by decide +kernel
theorem dX2_moveForward_19 : decode cX2_moveForward 19 = .ok (.istore_n 3, 1) := by decide +kernel
theorem dX2_moveForward_20 : decode cX2_moveForward 20 = .ok (.iload_n 3, 1) := by decide +kernel
theorem dX2_moveForward_21 : decode cX2_moveForward 21 = .ok (.iload_n 2, 1) := by decide +kernel
theorem dX2_moveForward_22 : decode cX2_moveForward 22 = .ok (.if_icmp .ge 24, 3) := by decide +kernel
theorem dX2_moveForward_25 : decode cX2_moveForward 25 = .ok (.aload_n 0, 1) := by decide +kernel
theorem dX2_moveForward_26 : decode cX2_moveForward 26 = .ok (.iload_n 1, 1) := by decide +kernel
theorem dX2_moveForward_27 : decode cX2_moveForward 27 = .ok (.iload_n 3, 1) := by decide +kernel
theorem dX2_moveForward_28 : decode cX2_moveForward 28 = .ok (.invokevirtual 176, 3) := by decide +kernel
theorem dX2_moveForward_31 : decode cX2_moveForward 31 = .ok (.ifCond .eq 9, 3) := by decide +kernel
theorem dX2_moveForward_34 : decode cX2_moveForward 34 = .ok (.aload_n 0, 1) := by decide +kernel
theorem dX2_moveForward_35 : decode cX2_moveForward 35 = .ok (.iload_n 1, 1) := by decide +kernel
theorem dX2_moveForward_36 : decode cX2_moveForward 36 = .ok (.iload_n 3, 1) := by decide +kernel
theorem dX2_moveForward_37 : decode cX2_moveForward 37 = .ok (.invokevirtual 191, 3) := by decide +kernel
theorem dX2_moveForward_40 : decode cX2_moveForward 40 = .ok (.iinc 3 1, 3) := by decide +kernel
theorem dX2_moveForward_43 : decode cX2_moveForward 43 = .ok (.goto (-23), 3) := by decide +kernel
theorem dX2_moveForward_46 : decode cX2_moveForward 46 = .ok (.aload_n 0, 1) := by decide +kernel
theorem dX2_moveForward_47 : decode cX2_moveForward 47 = .ok (.iload_n 1, 1) := by decide +kernel
theorem dX2_moveForward_48 : decode cX2_moveForward 48 = .ok (.iconst 4, 1) := by decide +kernel
theorem dX2_moveForward_49 : decode cX2_moveForward 49 = .ok (.invokevirtual 194, 3) := by decide +kernel
theorem dX2_moveForward_52 : decode cX2_moveForward 52 = .ok (.istore_n 3, 1) := by decide +kernel
theorem dX2_moveForward_53 : decode cX2_moveForward 53 = .ok (.iload_n 3, 1) := by decide +kernel
theorem dX2_moveForward_54 : decode cX2_moveForward 54 = .ok (.ifCond .eq 8, 3) := by decide +kernel
theorem dX2_moveForward_57 : decode cX2_moveForward 57 = .ok (.aload_n 0, 1) := by decide +kernel
theorem dX2_moveForward_58 : decode cX2_moveForward 58 = .ok (.iload_n 1, 1) := by decide +kernel
theorem dX2_moveForward_59 : decode cX2_moveForward 59 = .ok (.invokevirtual 197, 3) := by decide +kernel
theorem dX2_moveForward_62 : decode cX2_moveForward 62 = .ok (.aload_n 0, 1) := by decide +kernel
theorem dX2_moveForward_63 : decode cX2_moveForward 63 = .ok (.iload_n 1, 1) := by decide +kernel
theorem dX2_moveForward_64 : decode cX2_moveForward 64 = .ok (.invokevirtual 200, 3) := by decide +kernel
theorem dX2_moveForward_67 : decode cX2_moveForward 67 = .ok (.ifCond .eq 19, 3) := by decide +kernel
theorem dX2_moveForward_70 : decode cX2_moveForward 70 = .ok (.aload_n 0, 1) := by decide +kernel
theorem dX2_moveForward_71 : decode cX2_moveForward 71 = .ok (.iload_n 1, 1) := by decide +kernel
theorem dX2_moveForward_72 : decode cX2_moveForward 72 = .ok (.aload_n 0, 1) := by decide +kernel
theorem dX2_moveForward_73 : decode cX2_moveForward 73 = .ok (.getfield 28, 3) := by decide +kernel
theorem dX2_moveForward_76 : decode cX2_moveForward 76 = .ok (.iload_n 1, 1) := by decide +kernel
theorem dX2_moveForward_77 : decode cX2_moveForward 77 = .ok (.iaload, 1) := by decide +kernel
theorem dX2_moveForward_78 : decode cX2_moveForward 78 = .ok (.iconst 1, 1) := by decide +kernel
theorem dX2_moveForward_79 : decode cX2_moveForward 79 = .ok (.iadd, 1) := by decide +kernel
theorem dX2_moveForward_80 : decode cX2_moveForward 80 = .ok (.invokevirtual 180, 3) := by decide +kernel
theorem dX2_moveForward_83 : decode cX2_moveForward 83 = .ok (.goto 30, 3) := by decide +kernel
theorem dX2_moveForward_86 : decode cX2_moveForward 86 = .ok (.iload_n 3, 1) := by decide +kernel
theorem dX2_moveForward_87 : decode cX2_moveForward 87 = .ok (.ifCond .eq 26, 3) := by decide +kernel
theorem dX2_moveForward_90 : decode cX2_moveForward 90 = .ok (.aload_n 0, 1) := by decide +kernel
theorem dX2_moveForward_91 : decode cX2_moveForward 91 = .ok (.iload_n 1, 1) := by decide +kernel
theorem dX2_moveForward_92 : decode cX2_moveForward 92 = .ok (.iconst 2, 1) := by decide +kernel
theorem dX2_moveForward_93 : decode cX2_moveForward 93 = .ok (.invokevirtual 194, 3) := by decide +kernel
theorem dX2_moveForward_96 : decode cX2_moveForward 96 = .ok (.ifCond .ne 17, 3) := by decide +kernel
theorem dX2_moveForward_99 : decode cX2_moveForward 99 = .ok (.aload_n 0, 1) := by decide +kernel
theorem dX2_moveForward_100 : decode cX2_moveForward 100 = .ok (.getfield 25, 3) := by decide +kernel
theorem dX2_moveForward_103 : decode cX2_moveForward 103 = .ok (.iload_n 1, 1) := by decide +kernel
theorem dX2_moveForward_104 : decode cX2_moveForward 104 = .ok (.iconst 2, 1) := by decide +kernel
theorem dX2_moveForward_105 : decode cX2_moveForward 105 = .ok (.iastore, 1) := by decide +kernel
theorem dX2_moveForward_106 : decode cX2_moveForward 106 = .ok (.aload_n 0, 1) := by decide +kernel
theorem dX2_moveForward_107 : decode cX2_moveForward 107 = .ok (.getfield 34, 3) := by decide +kernel
theorem dX2_moveForward_110 : decode cX2_moveForward 110 = .ok (.iload_n 1, 1) := by decide +kernel
theorem dX2_moveForward_111 : decode cX2_moveForward 111 = .ok (.iconst 0, 1) := by decide +kernel
theorem dX2_moveForward_112 : decode cX2_moveForward 112 = .ok (.iastore, 1) := by decide +kernel
theorem dX2_moveForward_113 : decode cX2_moveForward 113 = .ok (.return_, 1) := by decide +kernel
set_option maxRecDepth 20000 in
theorem ggX2_moveStep_X2_amountTakenBy : GoodIn wsX2_moveStep wsX2_amountTakenBy := goodIn_r _ [12, 4, 13, 14, 1, 6, 15, 43, 44, 45, 46, 47, 48, 49, 50, 51, 52, 53, 54, 55, 56, 57, 58, 59, 60, 61, 62, 63, 64, 65, 66, 67, 68, 69, 70, 71, 72, 73] (by decide +kernel) (by decide +kernel)
set_option maxRecDepth 20000 in
theorem gX2_moveStep_X2_amountTakenBy : GoodIn wsX2_moveStep (wsV RX2 151 RX2 yX2_amountTakenBy wsX2_amountTakenBy) := goodIn_app (goodIn_of _ (by decide +kernel)) ggX2_moveStep_X2_amountTakenBy
set_option maxRecDepth 20000 in
theorem ggX2_moveStep_X2_holdersOf : GoodIn wsX2_moveStep wsX2_holdersOf := goodIn_r _ [19, 4, 20, 21, 22, 23, 11, 24, 25, 8, 9, 10, 12, 13, 14, 1, 6, 15, 43, 44, 45, 46, 47, 48, 49, 50, 51, 52, 53, 54, 55, 56, 57, 58, 59, 60, 61, 62, 63, 64, 65, 66, 67, 68, 69, 70, 71, 72, 73] (by decide +kernel) (by decide +kernel)
set_option maxRecDepth 20000 in
theorem gX2_moveStep_X2_holdersOf : GoodIn wsX2_moveStep (wsV RX2 102 RX2 yX2_holdersOf wsX2_holdersOf) := goodIn_app (goodIn_of _ (by decide +kernel)) ggX2_moveStep_X2_holdersOf
set_option maxRecDepth 20000 in
theorem ggX2_moveStep_X2_waitForGuard : GoodIn wsX2_moveStep wsX2_waitForGuard := goodIn_r _ [29, 30, 4, 31, 1, 43, 44, 45, 46, 47, 48, 49, 50, 51, 52, 53, 54, 55, 56, 57, 58, 59, 60, 61, 62, 63, 64, 65, 66, 67, 68, 69, 70, 71, 72, 73] (by decide +kernel) (by decide +kernel)
set_option maxRecDepth 20000 in
theorem gX2_moveStep_X2_waitForGuard : GoodIn wsX2_moveStep (wsV RX2 203 RX2 yX2_waitForGuard wsX2_waitForGuard) := goodIn_app (goodIn_of _ (by decide +kernel)) ggX2_moveStep_X2_waitForGuard
set_option maxRecDepth 20000 in
theorem ggX2_moveStep_X2_takeAmount : GoodIn wsX2_moveStep wsX2_takeAmount := goodIn_r _ [35, 4, 15, 36, 1, 3, 2, 37, 38, 39, 40, 41, 42, 43, 44, 45, 46, 47, 48, 49, 50, 51, 52, 53, 54, 55, 56, 57, 58, 59, 60, 61, 62, 63, 64, 65, 66, 67, 68, 69, 70, 71, 72, 73] (by decide +kernel) (by decide +kernel)
set_option maxRecDepth 20000 in
theorem gX2_moveStep_X2_takeAmount : GoodIn wsX2_moveStep (wsV RX2 206 RX2 yX2_takeAmount wsX2_takeAmount) := goodIn_app (goodIn_of _ (by decide +kernel)) ggX2_moveStep_X2_takeAmount
theorem dX2_moveStep_0 : decode cX2_moveStep 0 = .ok (.aload_n 0, 1) := by decide +kernel
theorem dX2_moveStep_1 : decode cX2_moveStep 1 = .ok (.getfield 37, 3) := by decide +kernel
theorem dX2_moveStep_4 : decode cX2_moveStep 4 = .ok (.iload_n 2, 1) := by decide +kernel
theorem dX2_moveStep_5 : decode cX2_moveStep 5 = .ok (.iaload, 1) := by decide +kernel
theorem dX2_moveStep_6 : decode cX2_moveStep 6 = .ok (.iconst 2, 1) := by decide +kernel
theorem dX2_moveStep_7 : decode cX2_moveStep 7 = .ok (.if_icmp .ne 36, 3) := by decide +kernel
theorem dX2_moveStep_10 : decode cX2_moveStep 10 = .ok (.aload_n 0, 1) := by decide +kernel
theorem dX2_moveStep_11 : decode cX2_moveStep 11 = .ok (.getfield 9, 3) := by decide +kernel
theorem dX2_moveStep_14 : decode cX2_moveStep 14 = .ok (.aload_n 0, 1) := by decide +kernel
theorem dX2_moveStep_15 : decode cX2_moveStep 15 = .ok (.getfield 46, 3) := by decide +kernel
theorem dX2_moveStep_18 : decode cX2_moveStep 18 = .ok (.iload_n 2, 1) := by decide +kernel
theorem dX2_moveStep_19 : decode cX2_moveStep 19 = .ok (.iaload, 1) := by decide +kernel
theorem dX2_moveStep_20 : decode cX2_moveStep 20 = .ok (.isub, 1) := by decide +kernel
theorem dX2_moveStep_21 : decode cX2_moveStep 21 = .ok (.aload_n 0, 1) := by decide +kernel
theorem dX2_moveStep_22 : decode cX2_moveStep 22 = .ok (.getfield 52, 3) := by decide +kernel
theorem dX2_moveStep_25 : decode cX2_moveStep 25 = .ok (.getfield 139, 3) := by decide +kernel
theorem dX2_moveStep_28 : decode cX2_moveStep 28 = .ok (.iload_n 2, 1) := by decide +kernel
theorem dX2_moveStep_29 : decode cX2_moveStep 29 = .ok (.iaload, 1) := by decide +kernel
theorem dX2_moveStep_30 : decode cX2_moveStep 30 = .ok (.if_icmp .lt 85, 3) := by decide +kernel
theorem dX2_moveStep_33 : decode cX2_moveStep 33 = .ok (.aload_n 0, 1) := by decide +kernel
theorem dX2_moveStep_34 : decode cX2_moveStep 34 = .ok (.getfield 37, 3) := by decide +kernel
theorem dX2_moveStep_37 : decode cX2_moveStep 37 = .ok (.iload_n 2, 1) := by decide +kernel
theorem dX2_moveStep_38 : decode cX2_moveStep 38 = .ok (.iconst 3, 1) := by decide +kernel
theorem dX2_moveStep_39 : decode cX2_moveStep 39 = .ok (.iastore, 1) := by decide +kernel
theorem dX2_moveStep_40 : decode cX2_moveStep 40 = .ok (.goto 75, 3) := by decide +kernel
theorem dX2_moveStep_43 : decode cX2_moveStep 43 = .ok (.aload_n 0, 1) := by decide +kernel
theorem dX2_moveStep_44 : decode cX2_moveStep 44 = .ok (.getfield 37, 3) := by decide +kernel
theorem dX2_moveStep_47 : decode cX2_moveStep 47 = .ok (.iload_n 2, 1) := by decide +kernel
theorem dX2_moveStep_48 : decode cX2_moveStep 48 = .ok (.iaload, 1) := by decide +kernel
theorem dX2_moveStep_49 : decode cX2_moveStep 49 = .ok (.iconst 1, 1) := by decide +kernel
theorem dX2_moveStep_50 : decode cX2_moveStep 50 = .ok (.if_icmp .ne 65, 3) := by decide +kernel
theorem dX2_moveStep_53 : decode cX2_moveStep 53 = .ok (.aload_n 0, 1) := by decide +kernel
theorem dX2_moveStep_54 : decode cX2_moveStep 54 = .ok (.getfield 52, 3) := by decide +kernel
theorem dX2_moveStep_57 : decode cX2_moveStep 57 = .ok (.getfield 133, 3) := by decide +kernel
theorem dX2_moveStep_60 : decode cX2_moveStep 60 = .ok (.iload_n 2, 1) := by decide +kernel
theorem dX2_moveStep_61 : decode cX2_moveStep 61 = .ok (.iaload, 1) := by decide +kernel
theorem dX2_moveStep_62 : decode cX2_moveStep 62 = .ok (.istore_n 3, 1) := by decide +kernel
theorem dX2_moveStep_63 : decode cX2_moveStep 63 = .ok (.aload_n 0, 1) := by decide +kernel
theorem dX2_moveStep_64 : decode cX2_moveStep 64 = .ok (.iload_n 1, 1) := by decide +kernel
theorem dX2_moveStep_65 : decode cX2_moveStep 65 = .ok (.iload_n 3, 1) := by decide +kernel
theorem dX2_moveStep_66 : decode cX2_moveStep 66 = .ok (.invokevirtual 151, 3) := by decide +kernel
theorem dX2_moveStep_69 : decode cX2_moveStep 69 = .ok (.ifCond .le 7, 3) := by decide +kernel
theorem dX2_moveStep_72 : decode cX2_moveStep 72 = .ok (.iconst 1, 1) := by decide +kernel
theorem dX2_moveStep_73 : decode cX2_moveStep 73 = .ok (.goto 4, 3) := by decide +kernel
theorem dX2_moveStep_76 : decode cX2_moveStep 76 = .ok (.iconst 0, 1) := by decide +kernel
theorem dX2_moveStep_77 : decode cX2_moveStep 77 = .ok (.istore 4, 2) := by decide +kernel
theorem dX2_moveStep_79 : decode cX2_moveStep 79 = .ok (.iload 4, 2) := by decide +kernel
theorem dX2_moveStep_81 : decode cX2_moveStep 81 = .ok (.ifCond .ne 28, 3) := by decide +kernel
theorem dX2_moveStep_84 : decode cX2_moveStep 84 = .ok (.aload_n 0, 1) := by decide +kernel
theorem dX2_moveStep_85 : decode cX2_moveStep 85 = .ok (.iload_n 3, 1) := by decide +kernel
theorem dX2_moveStep_86 : decode cX2_moveStep 86 = .ok (.invokevirtual 102, 3) := by decide +kernel
theorem dX2_moveStep_89 : decode cX2_moveStep 89 = .ok (.aload_n 0, 1) := by decide +kernel
theorem dX2_moveStep_90 : decode cX2_moveStep 90 = .ok (.getfield 52, 3) := by decide +kernel
theorem dX2_moveStep_93 : decode cX2_moveStep 93 = .ok (.getfield 99, 3) := by decide +kernel
theorem dX2_moveStep_96 : decode cX2_moveStep 96 = .ok (.iload_n 3, 1) := by decide +kernel
theorem dX2_moveStep_97 : decode cX2_moveStep 97 = .ok (.iaload, 1) := by decide +kernel
theorem dX2_moveStep_98 : decode cX2_moveStep 98 = .ok (.if_icmp .lt 11, 3) := by decide +kernel
theorem dX2_moveStep_101 : decode cX2_moveStep 101 = .ok (.aload_n 0, 1) := by decide +kernel
theorem dX2_moveStep_102 : decode cX2_moveStep 102 = .ok (.iload_n 2, 1) := by decide +kernel
theorem dX2_moveStep_103 : decode cX2_moveStep 103 = .ok (.invokevirtual 203, 3) := by decide +kernel
theorem dX2_moveStep_106 : decode cX2_moveStep 106 = .ok (.goto 9, 3) := by decide +kernel
theorem dX2_moveStep_109 : decode cX2_moveStep 109 = .ok (.aload_n 0, 1) := by decide +kernel
theorem dX2_moveStep_110 : decode cX2_moveStep 110 = .ok (.iload_n 2, 1) := by decide +kernel
theorem dX2_moveStep_111 : decode cX2_moveStep 111 = .ok (.iload_n 3, 1) := by decide +kernel
theorem dX2_moveStep_112 : decode cX2_moveStep 112 = .ok (.invokevirtual 206, 3) := by decide +kernel
theorem dX2_moveStep_115 : decode cX2_moveStep 115 = .ok (.return_, 1) := by decide +kernel
theorem dX2_waitForGuard_0 : decode cX2_waitForGuard 0 = .ok (.aload_n 0, 1) := by decide +kernel
theorem dX2_waitForGuard_1 : decode cX2_waitForGuard 1 = .ok (.getfield 49, 3) := by decide +kernel
theorem dX2_waitForGuard_4 : decode cX2_waitForGuard 4 = .ok (.iload_n 1, 1) := by decide +kernel
theorem dX2_waitForGuard_5 : decode cX2_waitForGuard 5 = .ok (.iaload, 1) := by decide +kernel
theorem dX2_waitForGuard_6 : decode cX2_waitForGuard 6 = .ok (.aload_n 0, 1) := by decide +kernel
theorem dX2_waitForGuard_7 : decode cX2_waitForGuard 7 = .ok (.getfield 52, 3) := by decide +kernel
theorem dX2_waitForGuard_10 : decode cX2_waitForGuard 10 = .ok (.getfield 89, 3) := by decide +kernel
theorem dX2_waitForGuard_13 : decode cX2_waitForGuard 13 = .ok (.if_icmp .lt 13, 3) := by decide +kernel
theorem dX2_waitForGuard_16 : decode cX2_waitForGuard 16 = .ok (.aload_n 0, 1) := by decide +kernel
theorem dX2_waitForGuard_17 : decode cX2_waitForGuard 17 = .ok (.getfield 37, 3) := by decide +kernel
theorem dX2_waitForGuard_20 : decode cX2_waitForGuard 20 = .ok (.iload_n 1, 1) := by decide +kernel
theorem dX2_waitForGuard_21 : decode cX2_waitForGuard 21 = .ok (.iconst 4, 1) := by decide +kernel
theorem dX2_waitForGuard_22 : decode cX2_waitForGuard 22 = .ok (.iastore, 1) := by decide +kernel
theorem dX2_waitForGuard_23 : decode cX2_waitForGuard 23 = .ok (.goto 13, 3) := by decide +kernel
theorem dX2_waitForGuard_26 : decode cX2_waitForGuard 26 = .ok (.aload_n 0, 1) := by decide +kernel
theorem dX2_waitForGuard_27 : decode cX2_waitForGuard 27 = .ok (.getfield 49, 3) := by decide +kernel
theorem dX2_waitForGuard_30 : decode cX2_waitForGuard 30 = .ok (.iload_n 1, 1) := by decide +kernel
theorem dX2_waitForGuard_31 : decode cX2_waitForGuard 31 = .ok (.dup2, 1) := by decide +kernel
theorem dX2_waitForGuard_32 : decode cX2_waitForGuard 32 = .ok (.iaload, 1) := by decide +kernel
theorem dX2_waitForGuard_33 : decode cX2_waitForGuard 33 = .ok (.iconst 1, 1) := by decide +kernel
theorem dX2_waitForGuard_34 : decode cX2_waitForGuard 34 = .ok (.iadd, 1) := by decide +kernel
theorem dX2_waitForGuard_35 : decode cX2_waitForGuard 35 = .ok (.iastore, 1) := by decide +kernel
theorem dX2_waitForGuard_36 : decode cX2_waitForGuard 36 = .ok (.return_, 1) := by decide +kernel
theorem dX2_takeAmount_0 : decode cX2_takeAmount 0 = .ok (.aload_n 0, 1) := by decide +kernel
theorem dX2_takeAmount_1 : decode cX2_takeAmount 1 = .ok (.getfield 52, 3) := by decide +kernel
theorem dX2_takeAmount_4 : decode cX2_takeAmount 4 = .ok (.getfield 136, 3) := by decide +kernel
theorem dX2_takeAmount_7 : decode cX2_takeAmount 7 = .ok (.iload_n 1, 1) := by decide +kernel
theorem dX2_takeAmount_8 : decode cX2_takeAmount 8 = .ok (.iaload, 1) := by decide +kernel
theorem dX2_takeAmount_9 : decode cX2_takeAmount 9 = .ok (.aload_n 0, 1) := by decide +kernel
theorem dX2_takeAmount_10 : decode cX2_takeAmount 10 = .ok (.getfield 18, 3) := by decide +kernel
theorem dX2_takeAmount_13 : decode cX2_takeAmount 13 = .ok (.iload_n 2, 1) := by decide +kernel
theorem dX2_takeAmount_14 : decode cX2_takeAmount 14 = .ok (.iaload, 1) := by decide +kernel
theorem dX2_takeAmount_15 : decode cX2_takeAmount 15 = .ok (.isub, 1) := by decide +kernel
theorem dX2_takeAmount_16 : decode cX2_takeAmount 16 = .ok (.istore_n 3, 1) := by decide +kernel
theorem dX2_takeAmount_17 : decode cX2_takeAmount 17 = .ok (.iload_n 3, 1) := by decide +kernel
theorem dX2_takeAmount_18 : decode cX2_takeAmount 18 = .ok (.ifCond .gt 39, 3) := by decide +kernel
theorem dX2_takeAmount_21 : decode cX2_takeAmount 21 = .ok (.aload_n 0, 1) := by decide +kernel
theorem dX2_takeAmount_22 : decode cX2_takeAmount 22 = .ok (.getfield 18, 3) := by decide +kernel
theorem dX2_takeAmount_25 : decode cX2_takeAmount 25 = .ok (.iload_n 2, 1) := by decide +kernel
theorem dX2_takeAmount_26 : decode cX2_takeAmount 26 = .ok (.dup2, 1) := by decide +kernel
theorem dX2_takeAmount_27 : decode cX2_takeAmount 27 = .ok (.iaload, 1) := by decide +kernel
theorem dX2_takeAmount_28 : decode cX2_takeAmount 28 = .ok (.aload_n 0, 1) := by decide +kernel
theorem dX2_takeAmount_29 : decode cX2_takeAmount 29 = .ok (.getfield 52, 3) := by decide +kernel
theorem dX2_takeAmount_32 : decode cX2_takeAmount 32 = .ok (.getfield 136, 3) := by decide +kernel
theorem dX2_takeAmount_35 : decode cX2_takeAmount 35 = .ok (.iload_n 1, 1) := by decide +kernel
theorem dX2_takeAmount_36 : decode cX2_takeAmount 36 = .ok (.iaload, 1) := by decide +kernel
theorem dX2_takeAmount_37 : decode cX2_takeAmount 37 = .ok (.isub, 1) := by decide +kernel
theorem dX2_takeAmount_38 : decode cX2_takeAmount 38 = .ok (.iastore, 1) := by decide +kernel
theorem dX2_takeAmount_39 : decode cX2_takeAmount 39 = .ok (.aload_n 0, 1) := by decide +kernel
theorem dX2_takeAmount_40 : decode cX2_takeAmount 40 = .ok (.getfield 37, 3) := by decide +kernel
theorem dX2_takeAmount_43 : decode cX2_takeAmount 43 = .ok (.iload_n 1, 1) := by decide +kernel
theorem dX2_takeAmount_44 : decode cX2_takeAmount 44 = .ok (.iconst 2, 1) := by decide +kernel
theorem dX2_takeAmount_45 : decode cX2_takeAmount 45 = .ok (.iastore, 1) := by decide +kernel
theorem dX2_takeAmount_46 : decode cX2_takeAmount 46 = .ok (.aload_n 0, 1) := by decide +kernel
theorem dX2_takeAmount_47 : decode cX2_takeAmount 47 = .ok (.getfield 46, 3) := by decide +kernel
theorem dX2_takeAmount_50 : decode cX2_takeAmount 50 = .ok (.iload_n 1, 1) := by decide +kernel
theorem dX2_takeAmount_51 : decode cX2_takeAmount 51 = .ok (.aload_n 0, 1) := by decide +kernel
theorem dX2_takeAmount_52 : decode cX2_takeAmount 52 = .ok (.getfield 9, 3) := by decide +kernel
theorem dX2_takeAmount_55 : decode cX2_takeAmount 55 = .ok (.iastore, 1) := by decide +kernel
theorem dX2_takeAmount_56 : decode cX2_takeAmount 56 = .ok (.return_, 1) := by decide +kernel
theorem dX2_takeAmount_57 : decode cX2_takeAmount 57 = .ok (.aload_n 0, 1) := by decide +kernel
theorem dX2_takeAmount_58 : decode cX2_takeAmount 58 = .ok (.getfield 22, 3) := by decide +kernel
theorem dX2_takeAmount_61 : decode cX2_takeAmount 61 = .ok (.iload_n 2, 1) := by decide +kernel
theorem dX2_takeAmount_62 : decode cX2_takeAmount 62 = .ok (.aload_n 0, 1) := by decide +kernel
theorem dX2_takeAmount_63 : decode cX2_takeAmount 63 = .ok (.getfield 22, 3) := by decide +kernel
theorem dX2_takeAmount_66 : decode cX2_takeAmount 66 = .ok (.iload_n 2, 1) := by decide +kernel
theorem dX2_takeAmount_67 : decode cX2_takeAmount 67 = .ok (.iaload, 1) := by decide +kernel
theorem dX2_takeAmount_68 : decode cX2_takeAmount 68 = .ok (.iload_n 3, 1) := by decide +kernel
theorem dX2_takeAmount_69 : decode cX2_takeAmount 69 = .ok (.invokestatic 159, 3) := by decide +kernel
theorem dX2_takeAmount_72 : decode cX2_takeAmount 72 = .ok (.iastore, 1) := by decide +kernel
theorem dX2_takeAmount_73 : decode cX2_takeAmount 73 = .ok (.aload_n 0, 1) := by decide +kernel
theorem dX2_takeAmount_74 : decode cX2_takeAmount 74 = .ok (.getfield 43, 3) := by decide +kernel
theorem dX2_takeAmount_77 : decode cX2_takeAmount 77 = .ok (.iload_n 1, 1) := by decide +kernel
theorem dX2_takeAmount_78 : decode cX2_takeAmount 78 = .ok (.iaload, 1) := by decide +kernel
theorem dX2_takeAmount_79 : decode cX2_takeAmount 79 = .ok (.ifCond .le 16, 3) := by decide +kernel
theorem dX2_takeAmount_82 : decode cX2_takeAmount 82 = .ok (.aload_n 0, 1) := by decide +kernel
theorem dX2_takeAmount_83 : decode cX2_takeAmount 83 = .ok (.getfield 43, 3) := by decide +kernel
theorem dX2_takeAmount_86 : decode cX2_takeAmount 86 = .ok (.iload_n 1, 1) := by decide +kernel
theorem dX2_takeAmount_87 : decode cX2_takeAmount 87 = .ok (.dup2, 1) := by decide +kernel
theorem dX2_takeAmount_88 : decode cX2_takeAmount 88 = .ok (.iaload, 1) := by decide +kernel
theorem dX2_takeAmount_89 : decode cX2_takeAmount 89 = .ok (.iconst 1, 1) := by decide +kernel
theorem dX2_takeAmount_90 : decode cX2_takeAmount 90 = .ok (.isub, 1) := by decide +kernel
theorem dX2_takeAmount_91 : decode cX2_takeAmount 91 = .ok (.iastore, 1) := by decide +kernel
theorem dX2_takeAmount_92 : decode cX2_takeAmount 92 = .ok (.goto 10, 3) := by decide +kernel
theorem dX2_takeAmount_95 : decode cX2_takeAmount 95 = .ok (.aload_n 0, 1) := by decide +kernel
theorem dX2_takeAmount_96 : decode cX2_takeAmount 96 = .ok (.getfield 37, 3) := by decide +kernel
theorem dX2_takeAmount_99 : decode cX2_takeAmount 99 = .ok (.iload_n 1, 1) := by decide +kernel
theorem dX2_takeAmount_100 : decode cX2_takeAmount 100 = .ok (.iconst 4, 1) := by decide +kernel
theorem dX2_takeAmount_101 : decode cX2_takeAmount 101 = .ok (.iastore, 1) := by decide +kernel
theorem dX2_takeAmount_102 : decode cX2_takeAmount 102 = .ok (.return_, 1) := by decide +kernel
theorem dX2_isPresent_0 : decode cX2_isPresent 0 = .ok (.aload_n 0, 1) := by decide +kernel
theorem dX2_isPresent_1 : decode cX2_isPresent 1 = .ok (.getfield 52, 3) := by decide +kernel
theorem dX2_isPresent_4 : decode cX2_isPresent 4 = .ok (.getfield 130, 3) := by decide +kernel
theorem dX2_isPresent_7 : decode cX2_isPresent 7 = .ok (.iload_n 2, 1) := by decide +kernel
theorem dX2_isPresent_8 : decode cX2_isPresent 8 = .ok (.iaload, 1) := by decide +kernel
theorem dX2_isPresent_9 : decode cX2_isPresent 9 = .ok (.aload_n 0, 1) := by decide +kernel
theorem dX2_isPresent_10 : decode cX2_isPresent 10 = .ok (.getfield 28, 3) := by decide +kernel
theorem dX2_isPresent_13 : decode cX2_isPresent 13 = .ok (.iload_n 1, 1) := by decide +kernel
theorem dX2_isPresent_14 : decode cX2_isPresent 14 = .ok (.iaload, 1) := by decide +kernel
theorem dX2_isPresent_15 : decode cX2_isPresent 15 = .ok (.if_icmp .ne 7, 3) := by decide +kernel
theorem dX2_isPresent_18 : decode cX2_isPresent 18 = .ok (.iconst 1, 1) := by decide +kernel
theorem dX2_isPresent_19 : decode cX2_isPresent 19 = .ok (.goto 4, 3) := by decide +kernel
theorem dX2_isPresent_22 : decode cX2_isPresent 22 = .ok (.iconst 0, 1) := by decide +kernel
theorem dX2_isPresent_23 : decode cX2_isPresent 23 = .ok (.ireturn, 1) := by decide +kernel
set_option maxRecDepth 20000 in
theorem ggX2_stageHas_X2_isPresent : GoodIn wsX2_stageHas wsX2_isPresent := goodIn_r _ [9, 1, 10, 11, 12, 13, 14, 15, 16, 17, 18, 19, 20, 21, 22, 23, 24, 25, 26, 27, 28, 29, 30, 31, 32, 33, 34, 35, 36, 37, 38, 39, 40, 41, 42] (by decide +kernel) (by decide +kernel)
set_option maxRecDepth 20000 in
theorem gX2_stageHas_X2_isPresent : GoodIn wsX2_stageHas (wsV RX2 176 RX2 yX2_isPresent wsX2_isPresent) := goodIn_app (goodIn_of _ (by decide +kernel)) ggX2_stageHas_X2_isPresent
theorem dX2_stageHas_0 : decode cX2_stageHas 0 = .ok (.aload_n 0, 1) := by decide +kernel
theorem dX2_stageHas_1 : decode cX2_stageHas 1 = .ok (.getfield 52, 3) := by decide +kernel
theorem dX2_stageHas_4 : decode cX2_stageHas 4 = .ok (.getfield 145, 3) := by decide +kernel
theorem dX2_stageHas_7 : decode cX2_stageHas 7 = .ok (.iload_n 1, 1) := by decide +kernel
theorem dX2_stageHas_8 : decode cX2_stageHas 8 = .ok (.iaload, 1) := by decide +kernel
theorem dX2_stageHas_9 : decode cX2_stageHas 9 = .ok (.istore_n 3, 1) := by decide +kernel
theorem dX2_stageHas_10 : decode cX2_stageHas 10 = .ok (.aload_n 0, 1) := by decide +kernel
theorem dX2_stageHas_11 : decode cX2_stageHas 11 = .ok (.getfield 52, 3) := by decide +kernel
theorem dX2_stageHas_14 : decode cX2_stageHas 14 = .ok (.getfield 148, 3) := by decide +kernel
theorem dX2_stageHas_17 : decode cX2_stageHas 17 = .ok (.iload_n 1, 1) := by decide +kernel
theorem dX2_stageHas_18 : decode cX2_stageHas 18 = .ok (.iaload, 1) := by decide +kernel
theorem dX2_stageHas_19 : decode cX2_stageHas 19 = .ok (.istore 4, 2) := by decide +kernel
theorem dX2_stageHas_21 : decode cX2_stageHas 21 = .ok (.iload 4, 2) := by decide +kernel
theorem dX2_stageHas_23 : decode cX2_stageHas 23 = .ok (.iload_n 3, 1) := by decide +kernel
theorem dX2_stageHas_24 : decode cX2_stageHas 24 = .ok (.if_icmp .ge 32, 3) := by decide +kernel
theorem dX2_stageHas_27 : decode cX2_stageHas 27 = .ok (.aload_n 0, 1) := by decide +kernel
theorem dX2_stageHas_28 : decode cX2_stageHas 28 = .ok (.iload_n 1, 1) := by decide +kernel
theorem dX2_stageHas_29 : decode cX2_stageHas 29 = .ok (.iload 4, 2) := by decide +kernel
theorem dX2_stageHas_31 : decode cX2_stageHas 31 = .ok (.invokevirtual 176, 3) := by decide +kernel
theorem dX2_stageHas_34 : decode cX2_stageHas 34 = .ok (.ifCond .eq 16, 3) := by decide +kernel
theorem dX2_stageHas_37 : decode cX2_stageHas 37 = .ok (.aload_n 0, 1) := by decide +kernel
theorem dX2_stageHas_38 : decode cX2_stageHas 38 = .ok (.getfield 37, 3) := by decide +kernel
theorem dX2_stageHas_41 : decode cX2_stageHas 41 = .ok (.iload 4, 2) := by decide +kernel
theorem dX2_stageHas_43 : decode cX2_stageHas 43 = .ok (.iaload, 1) := by decide +kernel
theorem dX2_stageHas_44 : decode cX2_stageHas 44 = .ok (.iload_n 2, 1) := by decide +kernel
theorem dX2_stageHas_45 : decode cX2_stageHas 45 = .ok (.if_icmp .ne 5, 3) := by decide +kernel
theorem dX2_stageHas_48 : decode cX2_stageHas 48 = .ok (.iconst 1, 1) := by decide +kernel
theorem dX2_stageHas_49 : decode cX2_stageHas 49 = .ok (.ireturn, 1) := by decide +kernel
theorem dX2_stageHas_50 : decode cX2_stageHas 50 = .ok (.iinc 4 1, 3) := by decide +kernel
theorem dX2_stageHas_53 : decode cX2_stageHas 53 = .ok (.goto (-32), 3) := by decide +kernel
theorem dX2_stageHas_56 : decode cX2_stageHas 56 = .ok (.iconst 0, 1) := by decide +kernel
theorem dX2_stageHas_57 : decode cX2_stageHas 57 = .ok (.ireturn, 1) := by decide +kernel
set_option maxRecDepth 20000 in
theorem ggX2_stageIsOver_X2_isPresent : GoodIn wsX2_stageIsOver wsX2_isPresent := goodIn_r _ [8, 1, 9, 10, 16, 17, 18, 19, 20, 21, 22, 23, 24, 25, 26, 27, 28, 29, 30, 31, 32, 33, 34, 35, 36, 37, 38, 39, 40, 41, 42, 43, 44, 45, 46] (by decide +kernel) (by decide +kernel)
set_option maxRecDepth 20000 in
theorem gX2_stageIsOver_X2_isPresent : GoodIn wsX2_stageIsOver (wsV RX2 176 RX2 yX2_isPresent wsX2_isPresent) := goodIn_app (goodIn_of _ (by decide +kernel)) ggX2_stageIsOver_X2_isPresent
set_option maxRecDepth 20000 in
theorem ggX2_stageIsOver_X2_isOpen : GoodIn wsX2_stageIsOver wsX2_isOpen := goodIn_r _ [14, 15, 16, 17, 18, 19, 20, 21, 22, 23, 24, 25, 26, 27, 28, 29] (by decide +kernel) (by decide +kernel)
set_option maxRecDepth 20000 in
theorem gX2_stageIsOver_X2_isOpen : GoodIn wsX2_stageIsOver (wsV RX2 209 RX2 yX2_isOpen wsX2_isOpen) := goodIn_app (goodIn_of _ (by decide +kernel)) ggX2_stageIsOver_X2_isOpen
theorem dX2_stageIsOver_0 : decode cX2_stageIsOver 0 = .ok (.aload_n 0, 1) := by decide +kernel
theorem dX2_stageIsOver_1 : decode cX2_stageIsOver 1 = .ok (.getfield 52, 3) := by decide +kernel
theorem dX2_stageIsOver_4 : decode cX2_stageIsOver 4 = .ok (.getfield 145, 3) := by decide +kernel
theorem dX2_stageIsOver_7 : decode cX2_stageIsOver 7 = .ok (.iload_n 1, 1) := by decide +kernel
theorem dX2_stageIsOver_8 : decode cX2_stageIsOver 8 = .ok (.iaload, 1) := by decide +kernel
theorem dX2_stageIsOver_9 : decode cX2_stageIsOver 9 = .ok (.istore_n 2, 1) := by decide +kernel
theorem dX2_stageIsOver_10 : decode cX2_stageIsOver 10 = .ok (.aload_n 0, 1) := by decide +kernel
theorem dX2_stageIsOver_11 : decode cX2_stageIsOver 11 = .ok (.getfield 52, 3) := by decide +kernel
theorem dX2_stageIsOver_14 : decode cX2_stageIsOver 14 = .ok (.getfield 148, 3) := by decide +kernel
theorem dX2_stageIsOver_17 : decode cX2_stageIsOver 17 = .ok (.iload_n 1, 1) := by decide +kernel
theorem dX2_stageIsOver_18 : decode cX2_stageIsOver 18 = .ok (.iaload, 1) := by decide +kernel
theorem dX2_stageIsOver_19 : decode cX2_stageIsOver 19 = .ok (.istore_n 3, 1) := by decide +kernel
theorem dX2_stageIsOver_20 : decode cX2_stageIsOver 20 = .ok (.iload_n 3, 1) := by decide +kernel
theorem dX2_stageIsOver_21 : decode cX2_stageIsOver 21 = .ok (.iload_n 2, 1) := by decide +kernel
theorem dX2_stageIsOver_22 : decode cX2_stageIsOver 22 = .ok (.if_icmp .ge 28, 3) := by decide +kernel
theorem dX2_stageIsOver_25 : decode cX2_stageIsOver 25 = .ok (.aload_n 0, 1) := by decide +kernel
theorem dX2_stageIsOver_26 : decode cX2_stageIsOver 26 = .ok (.iload_n 1, 1) := by decide +kernel
theorem dX2_stageIsOver_27 : decode cX2_stageIsOver 27 = .ok (.iload_n 3, 1) := by decide +kernel
theorem dX2_stageIsOver_28 : decode cX2_stageIsOver 28 = .ok (.invokevirtual 176, 3) := by decide +kernel
theorem dX2_stageIsOver_31 : decode cX2_stageIsOver 31 = .ok (.ifCond .eq 13, 3) := by decide +kernel
theorem dX2_stageIsOver_34 : decode cX2_stageIsOver 34 = .ok (.aload_n 0, 1) := by decide +kernel
theorem dX2_stageIsOver_35 : decode cX2_stageIsOver 35 = .ok (.iload_n 3, 1) := by decide +kernel
theorem dX2_stageIsOver_36 : decode cX2_stageIsOver 36 = .ok (.invokevirtual 209, 3) := by decide +kernel
theorem dX2_stageIsOver_39 : decode cX2_stageIsOver 39 = .ok (.ifCond .eq 5, 3) := by decide +kernel
theorem dX2_stageIsOver_42 : decode cX2_stageIsOver 42 = .ok (.iconst 0, 1) := by decide +kernel
theorem dX2_stageIsOver_43 : decode cX2_stageIsOver 43 = .ok (.ireturn, 1) := by decide +kernel
theorem dX2_stageIsOver_44 : decode cX2_stageIsOver 44 = .ok (.iinc 3 1, 3) := by decide +kernel
theorem dX2_stageIsOver_47 : decode cX2_stageIsOver 47 = .ok (.goto (-27), 3) := by decide +kernel
theorem dX2_stageIsOver_50 : decode cX2_stageIsOver 50 = .ok (.iconst 1, 1) := by decide +kernel
theorem dX2_stageIsOver_51 : decode cX2_stageIsOver 51 = .ok (.ireturn, 1) := by decide +kernel
theorem dX2_isOpen_0 : decode cX2_isOpen 0 = .ok (.aload_n 0, 1) := by decide +kernel
theorem dX2_isOpen_1 : decode cX2_isOpen 1 = .ok (.getfield 37, 3) := by decide +kernel
theorem dX2_isOpen_4 : decode cX2_isOpen 4 = .ok (.iload_n 1, 1) := by decide +kernel
theorem dX2_isOpen_5 : decode cX2_isOpen 5 = .ok (.iaload, 1) := by decide +kernel
theorem dX2_isOpen_6 : decode cX2_isOpen 6 = .ok (.iconst 3, 1) := by decide +kernel
theorem dX2_isOpen_7 : decode cX2_isOpen 7 = .ok (.if_icmp .eq 18, 3) := by decide +kernel
theorem dX2_isOpen_10 : decode cX2_isOpen 10 = .ok (.aload_n 0, 1) := by decide +kernel
theorem dX2_isOpen_11 : decode cX2_isOpen 11 = .ok (.getfield 37, 3) := by decide +kernel
theorem dX2_isOpen_14 : decode cX2_isOpen 14 = .ok (.iload_n 1, 1) := by decide +kernel
theorem dX2_isOpen_15 : decode cX2_isOpen 15 = .ok (.iaload, 1) := by decide +kernel
theorem dX2_isOpen_16 : decode cX2_isOpen 16 = .ok (.bipush 6, 2) := by decide +kernel
theorem dX2_isOpen_18 : decode cX2_isOpen 18 = .ok (.if_icmp .eq 7, 3) := by decide +kernel
theorem dX2_isOpen_21 : decode cX2_isOpen 21 = .ok (.iconst 1, 1) := by decide +kernel
theorem dX2_isOpen_22 : decode cX2_isOpen 22 = .ok (.goto 4, 3) := by decide +kernel
theorem dX2_isOpen_25 : decode cX2_isOpen 25 = .ok (.iconst 0, 1) := by decide +kernel
theorem dX2_isOpen_26 : decode cX2_isOpen 26 = .ok (.ireturn, 1) := by decide +kernel
set_option maxRecDepth 20000 in
theorem ggX2_withdrawReadySteps_X2_isPresent : GoodIn wsX2_withdrawReadySteps wsX2_isPresent := goodIn_r _ [9, 1, 10, 11, 12, 13, 14, 15, 16, 17, 18, 19, 20, 21, 22, 23, 24, 25, 26, 27, 28, 29, 30, 31, 32, 33, 34, 35, 36, 37, 38, 39, 40, 41, 42] (by decide +kernel) (by decide +kernel)
set_option maxRecDepth 20000 in
theorem gX2_withdrawReadySteps_X2_isPresent : GoodIn wsX2_withdrawReadySteps (wsV RX2 176 RX2 yX2_isPresent wsX2_isPresent) := goodIn_app (goodIn_of _ (by decide +kernel)) ggX2_withdrawReadySteps_X2_isPresent
theorem dX2_withdrawReadySteps_0 : decode cX2_withdrawReadySteps 0 = .ok (.aload_n 0, 1) := by decide +kernel
theorem dX2_withdrawReadySteps_1 : decode cX2_withdrawReadySteps 1 = .ok (.getfield 52, 3) := by decide +kernel
theorem dX2_withdrawReadySteps_4 : decode cX2_withdrawReadySteps 4 = .ok (.getfield 145, 3) := by decide +kernel
theorem dX2_withdrawReadySteps_7 : decode cX2_withdrawReadySteps 7 = .ok (.iload_n 1, 1) := by decide +kernel
theorem dX2_withdrawReadySteps_8 : decode cX2_withdrawReadySteps 8 = .ok (.iaload, 1) := by decide +kernel
theorem dX2_withdrawReadySteps_9 : decode cX2_withdrawReadySteps 9 = .ok (.istore_n 2, 1) := by decide +kernel
theorem dX2_withdrawReadySteps_10 : decode cX2_withdrawReadySteps 10 = .ok (.aload_n 0, 1) := by decide +kernel
theorem dX2_withdrawReadySteps_11 : decode cX2_withdrawReadySteps 11 = .ok (.getfield 52, 3) := by decide +kernel
theorem dX2_withdrawReadySteps_14 : decode cX2_withdrawReadySteps 14 = .ok (.getfield 148, 3) := by decide +kernel
theorem dX2_withdrawReadySteps_17 : decode cX2_withdrawReadySteps 17 = .ok (.iload_n 1, 1) := by decide +kernel
theorem dX2_withdrawReadySteps_18 : decode cX2_withdrawReadySteps 18 = .ok (.iaload, 1) := by decide +kernel
theorem dX2_withdrawReadySteps_19 : decode cX2_withdrawReadySteps 19 = .ok (.istore_n 3, 1) := by decide +kernel
theorem dX2_withdrawReadySteps_20 : decode cX2_withdrawReadySteps 20 = .ok (.iload_n 3, 1) := by decide +kernel
theorem dX2_withdrawReadySteps_21 : decode cX2_withdrawReadySteps 21 = .ok (.iload_n 2, 1) := by decide +kernel
theorem dX2_withdrawReadySteps_22 : decode cX2_withdrawReadySteps 22 = .ok (.if_icmp .ge 35, 3) := by decide +kernel
theorem dX2_withdrawReadySteps_25 : decode cX2_withdrawReadySteps 25 = .ok (.aload_n 0, 1) := by decide +kernel
theorem dX2_withdrawReadySteps_26 : decode cX2_withdrawReadySteps 26 = .ok (.iload_n 1, 1) := by decide +kernel
theorem dX2_withdrawReadySteps_27 : decode cX2_withdrawReadySteps 27 = .ok (.iload_n 3, 1) := by decide +kernel
theorem dX2_withdrawReadySteps_28 : decode cX2_withdrawReadySteps 28 = .ok (.invokevirtual 176, 3) := by decide +kernel
theorem dX2_withdrawReadySteps_31 : decode cX2_withdrawReadySteps 31 = .ok (.ifCond .eq 20, 3) := by decide +kernel
theorem dX2_withdrawReadySteps_34 : decode cX2_withdrawReadySteps 34 = .ok (.aload_n 0, 1) := by decide +kernel
theorem dX2_withdrawReadySteps_35 : decode cX2_withdrawReadySteps 35 = .ok (.getfield 37, 3) := by decide +kernel
theorem dX2_withdrawReadySteps_38 : decode cX2_withdrawReadySteps 38 = .ok (.iload_n 3, 1) := by decide +kernel
theorem dX2_withdrawReadySteps_39 : decode cX2_withdrawReadySteps 39 = .ok (.iaload, 1) := by decide +kernel
theorem dX2_withdrawReadySteps_40 : decode cX2_withdrawReadySteps 40 = .ok (.iconst 1, 1) := by decide +kernel
theorem dX2_withdrawReadySteps_41 : decode cX2_withdrawReadySteps 41 = .ok (.if_icmp .ne 10, 3) := by decide +kernel
theorem dX2_withdrawReadySteps_44 : decode cX2_withdrawReadySteps 44 = .ok (.aload_n 0, 1) := by decide +kernel
theorem dX2_withdrawReadySteps_45 : decode cX2_withdrawReadySteps 45 = .ok (.getfield 37, 3) := by decide +kernel
theorem dX2_withdrawReadySteps_48 : decode cX2_withdrawReadySteps 48 = .ok (.iload_n 3, 1) := by decide +kernel
theorem dX2_withdrawReadySteps_49 : decode cX2_withdrawReadySteps 49 = .ok (.iconst 0, 1) := by decide +kernel
theorem dX2_withdrawReadySteps_50 : decode cX2_withdrawReadySteps 50 = .ok (.iastore, 1) := by decide +kernel
theorem dX2_withdrawReadySteps_51 : decode cX2_withdrawReadySteps 51 = .ok (.iinc 3 1, 3) := by decide +kernel
theorem dX2_withdrawReadySteps_54 : decode cX2_withdrawReadySteps 54 = .ok (.goto (-34), 3) := by decide +kernel
theorem dX2_withdrawReadySteps_57 : decode cX2_withdrawReadySteps 57 = .ok (.return_, 1) := by decide +kernel
set_option maxRecDepth 20000 in
theorem ggX2_enterStage_X2_comeToRest : GoodIn wsX2_enterStage wsX2_comeToRest := goodIn_r _ [12, 13, 14, 15, 21, 22, 23, 24, 25, 26, 27, 28, 29, 30, 31, 32, 33, 34] (by decide +kernel) (by decide +kernel)
set_option maxRecDepth 20000 in
theorem gX2_enterStage_X2_comeToRest : GoodIn wsX2_enterStage (wsV RX2 212 RX2 yX2_comeToRest wsX2_comeToRest) := goodIn_app (goodIn_of _ (by decide +kernel)) ggX2_enterStage_X2_comeToRest
set_option maxRecDepth 20000 in
theorem ggX2_enterStage_X2_isPresent : GoodIn wsX2_enterStage wsX2_isPresent := goodIn_r _ [19, 1, 20, 3, 21, 22, 23, 24, 25, 26, 27, 28, 29, 30, 31, 32, 33, 34, 35, 36, 37, 38, 39, 40, 41, 42, 43, 44, 45, 46, 47, 48, 49, 50, 51] (by decide +kernel) (by decide +kernel)
set_option maxRecDepth 20000 in
theorem gX2_enterStage_X2_isPresent : GoodIn wsX2_enterStage (wsV RX2 176 RX2 yX2_isPresent wsX2_isPresent) := goodIn_app (goodIn_of _ (by decide +kernel)) ggX2_enterStage_X2_isPresent
theorem dX2_enterStage_0 : decode cX2_enterStage 0 = .ok (.iload_n 2, 1) := by decide +kernel
theorem dX2_enterStage_1 : decode cX2_enterStage 1 = .ok (.aload_n 0, 1) := by decide +kernel
theorem dX2_enterStage_2 : decode cX2_enterStage 2 = .ok (.getfield 52, 3) := by decide +kernel
theorem dX2_enterStage_5 : decode cX2_enterStage 5 = .ok (.getfield 117, 3) := by decide +kernel
theorem dX2_enterStage_8 : decode cX2_enterStage 8 = .ok (.iload_n 1, 1) := by decide +kernel
theorem dX2_enterStage_9 : decode cX2_enterStage 9 = .ok (.iaload, 1) := by decide +kernel
theorem dX2_enterStage_10 : decode cX2_enterStage 10 = .ok (.if_icmp .lt 10, 3) := by decide +kernel
theorem dX2_enterStage_13 : decode cX2_enterStage 13 = .ok (.aload_n 0, 1) := by decide +kernel
theorem dX2_enterStage_14 : decode cX2_enterStage 14 = .ok (.iload_n 1, 1) := by decide +kernel
theorem dX2_enterStage_15 : decode cX2_enterStage 15 = .ok (.iconst 3, 1) := by decide +kernel
theorem dX2_enterStage_16 : decode cX2_enterStage 16 = .ok (.invokevirtual 212, 3) := by decide +kernel
theorem dX2_enterStage_19 : decode cX2_enterStage 19 = .ok (.return_, 1) := by decide +kernel
theorem dX2_enterStage_20 : decode cX2_enterStage 20 = .ok (.aload_n 0, 1) := by decide +kernel
theorem dX2_enterStage_21 : decode cX2_enterStage 21 = .ok (.getfield 28, 3) := by decide +kernel
theorem dX2_enterStage_24 : decode cX2_enterStage 24 = .ok (.iload_n 1, 1) := by decide +kernel
theorem dX2_enterStage_25 : decode cX2_enterStage 25 = .ok (.iload_n 2, 1) := by decide +kernel
theorem dX2_enterStage_26 : decode cX2_enterStage 26 = .ok (.iastore, 1) := by decide +kernel
theorem dX2_enterStage_27 : decode cX2_enterStage 27 = .ok (.aload_n 0, 1) := by decide +kernel
theorem dX2_enterStage_28 : decode cX2_enterStage 28 = .ok (.getfield 52, 3) := by decide +kernel
theorem dX2_enterStage_31 : decode cX2_enterStage 31 = .ok (.getfield 145, 3) := by decide +kernel
theorem dX2_enterStage_34 : decode cX2_enterStage 34 = .ok (.iload_n 1, 1) := by decide +kernel
theorem dX2_enterStage_35 : decode cX2_enterStage 35 = .ok (.iaload, 1) := by decide +kernel
theorem dX2_enterStage_36 : decode cX2_enterStage 36 = .ok (.istore_n 3, 1) := by decide +kernel
theorem dX2_enterStage_37 : decode cX2_enterStage 37 = .ok (.aload_n 0, 1) := by decide +kernel
theorem dX2_enterStage_38 : decode cX2_enterStage 38 = .ok (.getfield 52, 3) := by decide +kernel
theorem dX2_enterStage_41 : decode cX2_enterStage 41 = .ok (.getfield 148, 3) := by decide +kernel
theorem dX2_enterStage_44 : decode cX2_enterStage 44 = .ok (.iload_n 1, 1) := by decide +kernel
theorem dX2_enterStage_45 : decode cX2_enterStage 45 = .ok (.iaload, 1) := by decide +kernel
theorem dX2_enterStage_46 : decode cX2_enterStage 46 = .ok (.istore 4, 2) := by decide +kernel
theorem dX2_enterStage_48 : decode cX2_enterStage 48 = .ok (.iload 4, 2) := by decide +kernel
theorem dX2_enterStage_50 : decode cX2_enterStage 50 = .ok (.iload_n 3, 1) := by decide +kernel
theorem dX2_enterStage_51 : decode cX2_enterStage 51 = .ok (.if_icmp .ge 45, 3) := by decide +kernel
theorem dX2_enterStage_54 : decode cX2_enterStage 54 = .ok (.aload_n 0, 1) := by decide +kernel
theorem dX2_enterStage_55 : decode cX2_enterStage 55 = .ok (.iload_n 1, 1) := by decide +kernel
theorem dX2_enterStage_56 : decode cX2_enterStage 56 = .ok (.iload 4, 2) := by decide +kernel
theorem dX2_enterStage_58 : decode cX2_enterStage 58 = .ok (.invokevirtual 176, 3) := by decide +kernel
theorem dX2_enterStage_61 : decode cX2_enterStage 61 = .ok (.ifCond .eq 29, 3) := by decide +kernel
theorem dX2_enterStage_64 : decode cX2_enterStage 64 = .ok (.aload_n 0, 1) := by decide +kernel
theorem dX2_enterStage_65 : decode cX2_enterStage 65 = .ok (.getfield 37, 3) := by decide +kernel
theorem dX2_enterStage_68 : decode cX2_enterStage 68 = .ok (.iload 4, 2) := by decide +kernel
theorem dX2_enterStage_70 : decode cX2_enterStage 70 = .ok (.iaload, 1) := by decide +kernel
theorem dX2_enterStage_71 : decode cX2_enterStage 71 = .ok (.ifCond .ne 19, 3) := by decide +kernel
theorem dX2_enterStage_74 : decode cX2_enterStage 74 = .ok (.aload_n 0, 1) := by decide +kernel
theorem dX2_enterStage_75 : decode cX2_enterStage 75 = .ok (.getfield 37, 3) := by decide +kernel
theorem dX2_enterStage_78 : decode cX2_enterStage 78 = .ok (.iload 4, 2) := by decide +kernel
theorem dX2_enterStage_80 : decode cX2_enterStage 80 = .ok (.iconst 1, 1) := by decide +kernel
theorem dX2_enterStage_81 : decode cX2_enterStage 81 = .ok (.iastore, 1) := by decide +kernel
theorem dX2_enterStage_82 : decode cX2_enterStage 82 = .ok (.aload_n 0, 1) := by decide +kernel
theorem dX2_enterStage_83 : decode cX2_enterStage 83 = .ok (.getfield 49, 3) := by decide +kernel
theorem dX2_enterStage_86 : decode cX2_enterStage 86 = .ok (.iload 4, 2) := by decide +kernel
theorem dX2_enterStage_88 : decode cX2_enterStage 88 = .ok (.iconst 0, 1) := by decide +kernel
theorem dX2_enterStage_89 : decode cX2_enterStage 89 = .ok (.iastore, 1) := by decide +kernel
theorem dX2_enterStage_90 : decode cX2_enterStage 90 = .ok (.iinc 4 1, 3) := by decide +kernel
theorem dX2_enterStage_93 : decode cX2_enterStage 93 = .ok (.goto (-45), 3) := by decide +kernel
theorem dX2_enterStage_96 : decode cX2_enterStage 96 = .ok (.return_, 1) := by decide +kernel
theorem dX2_comeToRest_0 : decode cX2_comeToRest 0 = .ok (.aload_n 0, 1) := by decide +kernel
theorem dX2_comeToRest_1 : decode cX2_comeToRest 1 = .ok (.getfield 25, 3) := by decide +kernel
theorem dX2_comeToRest_4 : decode cX2_comeToRest 4 = .ok (.iload_n 1, 1) := by decide +kernel
theorem dX2_comeToRest_5 : decode cX2_comeToRest 5 = .ok (.iload_n 2, 1) := by decide +kernel
theorem dX2_comeToRest_6 : decode cX2_comeToRest 6 = .ok (.iastore, 1) := by decide +kernel
theorem dX2_comeToRest_7 : decode cX2_comeToRest 7 = .ok (.aload_n 0, 1) := by decide +kernel
theorem dX2_comeToRest_8 : decode cX2_comeToRest 8 = .ok (.getfield 31, 3) := by decide +kernel
theorem dX2_comeToRest_11 : decode cX2_comeToRest 11 = .ok (.iload_n 1, 1) := by decide +kernel
theorem dX2_comeToRest_12 : decode cX2_comeToRest 12 = .ok (.aload_n 0, 1) := by decide +kernel
theorem dX2_comeToRest_13 : decode cX2_comeToRest 13 = .ok (.getfield 9, 3) := by decide +kernel
theorem dX2_comeToRest_16 : decode cX2_comeToRest 16 = .ok (.iastore, 1) := by decide +kernel
theorem dX2_comeToRest_17 : decode cX2_comeToRest 17 = .ok (.return_, 1) := by decide +kernel
set_option maxRecDepth 20000 in
theorem ggX2_undoLastStep_X2_doneStepFromBehind : GoodIn wsX2_undoLastStep wsX2_doneStepFromBehind := goodIn_r _ [10, 4, 11, 12, 13, 28, 29, 30, 31, 32, 33, 34, 35, 36, 37, 38, 39, 40, 41, 42, 43, 44, 45, 46, 47, 48, 49, 50, 51, 52, 53, 54, 55, 56, 57, 58] (by decide +kernel) (by decide +kernel)
set_option maxRecDepth 20000 in
theorem gX2_undoLastStep_X2_doneStepFromBehind : GoodIn wsX2_undoLastStep (wsV RX2 215 RX2 yX2_doneStepFromBehind wsX2_doneStepFromBehind) := goodIn_app (goodIn_of _ (by decide +kernel)) ggX2_undoLastStep_X2_doneStepFromBehind
set_option maxRecDepth 20000 in
theorem ggX2_undoLastStep_X2_comeToRest : GoodIn wsX2_undoLastStep wsX2_comeToRest := goodIn_r _ [17, 18, 19, 20, 28, 29, 30, 31, 32, 33, 34, 35, 36, 37, 38, 39, 40, 41] (by decide +kernel) (by decide +kernel)
set_option maxRecDepth 20000 in
theorem gX2_undoLastStep_X2_comeToRest : GoodIn wsX2_undoLastStep (wsV RX2 212 RX2 yX2_comeToRest wsX2_comeToRest) := goodIn_app (goodIn_of _ (by decide +kernel)) ggX2_undoLastStep_X2_comeToRest
set_option maxRecDepth 20000 in
theorem ggX2_undoLastStep_X2_putStepAway : GoodIn wsX2_undoLastStep wsX2_putStepAway := goodIn_r _ [24, 25, 4, 26, 27, 13, 3, 28, 29, 30, 31, 32, 33, 34, 35, 36, 37, 38, 39, 40, 41, 42, 43, 44, 45, 46, 47, 48, 49, 50, 51, 52, 53, 54, 55, 56, 57, 58] (by decide +kernel) (by decide +kernel)
set_option maxRecDepth 20000 in
theorem gX2_undoLastStep_X2_putStepAway : GoodIn wsX2_undoLastStep (wsV RX2 218 RX2 yX2_putStepAway wsX2_putStepAway) := goodIn_app (goodIn_of _ (by decide +kernel)) ggX2_undoLastStep_X2_putStepAway
theorem dX2_undoLastStep_0 : decode cX2_undoLastStep 0 = .ok (.aload_n 0, 1) := by decide +kernel
theorem dX2_undoLastStep_1 : decode cX2_undoLastStep 1 = .ok (.iload_n 1, 1) := by decide +kernel
theorem dX2_undoLastStep_2 : decode cX2_undoLastStep 2 = .ok (.iconst 0, 1) := by decide +kernel
theorem dX2_undoLastStep_3 : decode cX2_undoLastStep 3 = .ok (.invokevirtual 215, 3) := by decide +kernel
theorem dX2_undoLastStep_6 : decode cX2_undoLastStep 6 = .ok (.istore_n 2, 1) := by decide +kernel
theorem dX2_undoLastStep_7 : decode cX2_undoLastStep 7 = .ok (.iload_n 2, 1) := by decide +kernel
theorem dX2_undoLastStep_8 : decode cX2_undoLastStep 8 = .ok (.ifCond .ge 12, 3) := by decide +kernel
theorem dX2_undoLastStep_11 : decode cX2_undoLastStep 11 = .ok (.aload_n 0, 1) := by decide +kernel
theorem dX2_undoLastStep_12 : decode cX2_undoLastStep 12 = .ok (.iload_n 1, 1) := by decide +kernel
theorem dX2_undoLastStep_13 : decode cX2_undoLastStep 13 = .ok (.iconst 4, 1) := by decide +kernel
theorem dX2_undoLastStep_14 : decode cX2_undoLastStep 14 = .ok (.invokevirtual 212, 3) := by decide +kernel
theorem dX2_undoLastStep_17 : decode cX2_undoLastStep 17 = .ok (.goto 74, 3) := by decide +kernel
theorem dX2_undoLastStep_20 : decode cX2_undoLastStep 20 = .ok (.aload_n 0, 1) := by decide +kernel
theorem dX2_undoLastStep_21 : decode cX2_undoLastStep 21 = .ok (.getfield 40, 3) := by decide +kernel
theorem dX2_undoLastStep_24 : decode cX2_undoLastStep 24 = .ok (.iload_n 2, 1) := by decide +kernel
theorem dX2_undoLastStep_25 : decode cX2_undoLastStep 25 = .ok (.iaload, 1) := by decide +kernel
theorem dX2_undoLastStep_26 : decode cX2_undoLastStep 26 = .ok (.ifCond .le 58, 3) := by decide +kernel
theorem dX2_undoLastStep_29 : decode cX2_undoLastStep 29 = .ok (.aload_n 0, 1) := by decide +kernel
theorem dX2_undoLastStep_30 : decode cX2_undoLastStep 30 = .ok (.getfield 40, 3) := by decide +kernel
theorem dX2_undoLastStep_33 : decode cX2_undoLastStep 33 = .ok (.iload_n 2, 1) := by decide +kernel
theorem dX2_undoLastStep_34 : decode cX2_undoLastStep 34 = .ok (.dup2, 1) := by decide +kernel
theorem dX2_undoLastStep_35 : decode cX2_undoLastStep 35 = .ok (.iaload, 1) := by decide +kernel
theorem dX2_undoLastStep_36 : decode cX2_undoLastStep 36 = .ok (.iconst 1, 1) := by decide +kernel
theorem dX2_undoLastStep_37 : decode cX2_undoLastStep 37 = .ok (.isub, 1) := by decide +kernel
theorem dX2_undoLastStep_38 : decode cX2_undoLastStep 38 = .ok (.iastore, 1) := by decide +kernel
theorem dX2_undoLastStep_39 : decode cX2_undoLastStep 39 = .ok (.aload_n 0, 1) := by decide +kernel
theorem dX2_undoLastStep_40 : decode cX2_undoLastStep 40 = .ok (.dup, 1) := by decide +kernel
theorem dX2_undoLastStep_41 : decode cX2_undoLastStep 41 = .ok (.getfield 15, 3) := by decide +kernel
theorem dX2_undoLastStep_44 : decode cX2_undoLastStep 44 = .ok (.iconst 1, 1) := by decide +kernel
theorem dX2_undoLastStep_45 : decode cX2_undoLastStep 45 = .ok (.iadd, 1) := by decide +kernel
theorem dX2_undoLastStep_46 : decode cX2_undoLastStep 46 = .ok (.putfield 15, 3) := by decide +kernel
theorem dX2_undoLastStep_49 : decode cX2_undoLastStep 49 = .ok (.aload_n 0, 1) := by decide +kernel
theorem dX2_undoLastStep_50 : decode cX2_undoLastStep 50 = .ok (.getfield 34, 3) := by decide +kernel
theorem dX2_undoLastStep_53 : decode cX2_undoLastStep 53 = .ok (.iload_n 1, 1) := by decide +kernel
theorem dX2_undoLastStep_54 : decode cX2_undoLastStep 54 = .ok (.dup2, 1) := by decide +kernel
theorem dX2_undoLastStep_55 : decode cX2_undoLastStep 55 = .ok (.iaload, 1) := by decide +kernel
theorem dX2_undoLastStep_56 : decode cX2_undoLastStep 56 = .ok (.iconst 1, 1) := by decide +kernel
theorem dX2_undoLastStep_57 : decode cX2_undoLastStep 57 = .ok (.iadd, 1) := by decide +kernel
theorem dX2_undoLastStep_58 : decode cX2_undoLastStep 58 = .ok (.iastore, 1) := by decide +kernel
theorem dX2_undoLastStep_59 : decode cX2_undoLastStep 59 = .ok (.aload_n 0, 1) := by decide +kernel
theorem dX2_undoLastStep_60 : decode cX2_undoLastStep 60 = .ok (.getfield 34, 3) := by decide +kernel
theorem dX2_undoLastStep_63 : decode cX2_undoLastStep 63 = .ok (.iload_n 1, 1) := by decide +kernel
theorem dX2_undoLastStep_64 : decode cX2_undoLastStep 64 = .ok (.iaload, 1) := by decide +kernel
theorem dX2_undoLastStep_65 : decode cX2_undoLastStep 65 = .ok (.aload_n 0, 1) := by decide +kernel
theorem dX2_undoLastStep_66 : decode cX2_undoLastStep 66 = .ok (.getfield 52, 3) := by decide +kernel
theorem dX2_undoLastStep_69 : decode cX2_undoLastStep 69 = .ok (.getfield 92, 3) := by decide +kernel
theorem dX2_undoLastStep_72 : decode cX2_undoLastStep 72 = .ok (.if_icmp .lt 19, 3) := by decide +kernel
theorem dX2_undoLastStep_75 : decode cX2_undoLastStep 75 = .ok (.aload_n 0, 1) := by decide +kernel
theorem dX2_undoLastStep_76 : decode cX2_undoLastStep 76 = .ok (.iload_n 1, 1) := by decide +kernel
theorem dX2_undoLastStep_77 : decode cX2_undoLastStep 77 = .ok (.iconst 5, 1) := by decide +kernel
theorem dX2_undoLastStep_78 : decode cX2_undoLastStep 78 = .ok (.invokevirtual 212, 3) := by decide +kernel
theorem dX2_undoLastStep_81 : decode cX2_undoLastStep 81 = .ok (.goto 10, 3) := by decide +kernel
theorem dX2_undoLastStep_84 : decode cX2_undoLastStep 84 = .ok (.aload_n 0, 1) := by decide +kernel
theorem dX2_undoLastStep_85 : decode cX2_undoLastStep 85 = .ok (.iload_n 1, 1) := by decide +kernel
theorem dX2_undoLastStep_86 : decode cX2_undoLastStep 86 = .ok (.iload_n 2, 1) := by decide +kernel
theorem dX2_undoLastStep_87 : decode cX2_undoLastStep 87 = .ok (.iconst 5, 1) := by decide +kernel
theorem dX2_undoLastStep_88 : decode cX2_undoLastStep 88 = .ok (.invokevirtual 218, 3) := by decide +kernel
theorem dX2_undoLastStep_91 : decode cX2_undoLastStep 91 = .ok (.return_, 1) := by decide +kernel
theorem dX2_putStepAway_0 : decode cX2_putStepAway 0 = .ok (.iload_n 3, 1) := by decide +kernel
theorem dX2_putStepAway_1 : decode cX2_putStepAway 1 = .ok (.iconst 5, 1) := by decide +kernel
theorem dX2_putStepAway_2 : decode cX2_putStepAway 2 = .ok (.if_icmp .ne 29, 3) := by decide +kernel
theorem dX2_putStepAway_5 : decode cX2_putStepAway 5 = .ok (.aload_n 0, 1) := by decide +kernel
theorem dX2_putStepAway_6 : decode cX2_putStepAway 6 = .ok (.getfield 18, 3) := by decide +kernel
theorem dX2_putStepAway_9 : decode cX2_putStepAway 9 = .ok (.aload_n 0, 1) := by decide +kernel
theorem dX2_putStepAway_10 : decode cX2_putStepAway 10 = .ok (.getfield 52, 3) := by decide +kernel
theorem dX2_putStepAway_13 : decode cX2_putStepAway 13 = .ok (.getfield 133, 3) := by decide +kernel
theorem dX2_putStepAway_16 : decode cX2_putStepAway 16 = .ok (.iload_n 2, 1) := by decide +kernel
theorem dX2_putStepAway_17 : decode cX2_putStepAway 17 = .ok (.iaload, 1) := by decide +kernel
theorem dX2_putStepAway_18 : decode cX2_putStepAway 18 = .ok (.dup2, 1) := by decide +kernel
theorem dX2_putStepAway_19 : decode cX2_putStepAway 19 = .ok (.iaload, 1) := by decide +kernel
theorem dX2_putStepAway_20 : decode cX2_putStepAway 20 = .ok (.aload_n 0, 1) := by decide +kernel
theorem dX2_putStepAway_21 : decode cX2_putStepAway 21 = .ok (.getfield 52, 3) := by decide +kernel
theorem dX2_putStepAway_24 : decode cX2_putStepAway 24 = .ok (.getfield 136, 3) := by decide +kernel
theorem dX2_putStepAway_27 : decode cX2_putStepAway 27 = .ok (.iload_n 2, 1) := by decide +kernel
theorem dX2_putStepAway_28 : decode cX2_putStepAway 28 = .ok (.iaload, 1) := by decide +kernel
theorem dX2_putStepAway_29 : decode cX2_putStepAway 29 = .ok (.iadd, 1) := by decide +kernel
theorem dX2_putStepAway_30 : decode cX2_putStepAway 30 = .ok (.iastore, 1) := by decide +kernel
theorem dX2_putStepAway_31 : decode cX2_putStepAway 31 = .ok (.aload_n 0, 1) := by decide +kernel
theorem dX2_putStepAway_32 : decode cX2_putStepAway 32 = .ok (.getfield 37, 3) := by decide +kernel
theorem dX2_putStepAway_35 : decode cX2_putStepAway 35 = .ok (.iload_n 2, 1) := by decide +kernel
theorem dX2_putStepAway_36 : decode cX2_putStepAway 36 = .ok (.iload_n 3, 1) := by decide +kernel
theorem dX2_putStepAway_37 : decode cX2_putStepAway 37 = .ok (.iastore, 1) := by decide +kernel
theorem dX2_putStepAway_38 : decode cX2_putStepAway 38 = .ok (.aload_n 0, 1) := by decide +kernel
theorem dX2_putStepAway_39 : decode cX2_putStepAway 39 = .ok (.getfield 34, 3) := by decide +kernel
theorem dX2_putStepAway_42 : decode cX2_putStepAway 42 = .ok (.iload_n 1, 1) := by decide +kernel
theorem dX2_putStepAway_43 : decode cX2_putStepAway 43 = .ok (.iconst 0, 1) := by decide +kernel
theorem dX2_putStepAway_44 : decode cX2_putStepAway 44 = .ok (.iastore, 1) := by decide +kernel
theorem dX2_putStepAway_45 : decode cX2_putStepAway 45 = .ok (.return_, 1) := by decide +kernel
set_option maxRecDepth 20000 in
theorem ggX2_putLastStepAway_X2_doneStepFromBehind : GoodIn wsX2_putLastStepAway wsX2_doneStepFromBehind := goodIn_r _ [8, 2, 9, 3, 10, 19, 20, 21, 22, 23, 24, 25, 26, 27, 28, 29, 30, 31, 32, 33, 34, 35, 36, 37, 38, 39, 40, 41, 42, 43, 44, 45, 46, 47, 48, 49] (by decide +kernel) (by decide +kernel)
set_option maxRecDepth 20000 in
theorem gX2_putLastStepAway_X2_doneStepFromBehind : GoodIn wsX2_putLastStepAway (wsV RX2 215 RX2 yX2_doneStepFromBehind wsX2_doneStepFromBehind) := goodIn_app (goodIn_of _ (by decide +kernel)) ggX2_putLastStepAway_X2_doneStepFromBehind
set_option maxRecDepth 20000 in
theorem ggX2_putLastStepAway_X2_putStepAway : GoodIn wsX2_putLastStepAway wsX2_putStepAway := goodIn_r _ [14, 15, 2, 16, 17, 10, 18, 19, 20, 21, 22, 23, 24, 25, 26, 27, 28, 29, 30, 31, 32, 33, 34, 35, 36, 37, 38, 39, 40, 41, 42, 43, 44, 45, 46, 47, 48, 49] (by decide +kernel) (by decide +kernel)
set_option maxRecDepth 20000 in
theorem gX2_putLastStepAway_X2_putStepAway : GoodIn wsX2_putLastStepAway (wsV RX2 218 RX2 yX2_putStepAway wsX2_putStepAway) := goodIn_app (goodIn_of _ (by decide +kernel)) ggX2_putLastStepAway_X2_putStepAway
theorem dX2_putLastStepAway_0 : decode cX2_putLastStepAway 0 = .ok (.aload_n 0, 1) := by decide +kernel
theorem dX2_putLastStepAway_1 : decode cX2_putLastStepAway 1 = .ok (.iload_n 1, 1) := by decide +kernel
theorem dX2_putLastStepAway_2 : decode cX2_putLastStepAway 2 = .ok (.iconst 0, 1) := by decide +kernel
theorem dX2_putLastStepAway_3 : decode cX2_putLastStepAway 3 = .ok (.invokevirtual 215, 3) := by decide +kernel
theorem dX2_putLastStepAway_6 : decode cX2_putLastStepAway 6 = .ok (.istore_n 3, 1) := by decide +kernel
theorem dX2_putLastStepAway_7 : decode cX2_putLastStepAway 7 = .ok (.iload_n 3, 1) := by decide +kernel
theorem dX2_putLastStepAway_8 : decode cX2_putLastStepAway 8 = .ok (.ifCond .ge 5, 3) := by decide +kernel
theorem dX2_putLastStepAway_11 : decode cX2_putLastStepAway 11 = .ok (.iconst (-1), 1) := by decide +kernel
theorem dX2_putLastStepAway_12 : decode cX2_putLastStepAway 12 = .ok (.ireturn, 1) := by decide +kernel
theorem dX2_putLastStepAway_13 : decode cX2_putLastStepAway 13 = .ok (.aload_n 0, 1) := by decide +kernel
theorem dX2_putLastStepAway_14 : decode cX2_putLastStepAway 14 = .ok (.iload_n 1, 1) := by decide +kernel
theorem dX2_putLastStepAway_15 : decode cX2_putLastStepAway 15 = .ok (.iload_n 3, 1) := by decide +kernel
theorem dX2_putLastStepAway_16 : decode cX2_putLastStepAway 16 = .ok (.iload_n 2, 1) := by decide +kernel
theorem dX2_putLastStepAway_17 : decode cX2_putLastStepAway 17 = .ok (.invokevirtual 218, 3) := by decide +kernel
theorem dX2_putLastStepAway_20 : decode cX2_putLastStepAway 20 = .ok (.aload_n 0, 1) := by decide +kernel
theorem dX2_putLastStepAway_21 : decode cX2_putLastStepAway 21 = .ok (.getfield 25, 3) := by decide +kernel
theorem dX2_putLastStepAway_24 : decode cX2_putLastStepAway 24 = .ok (.iload_n 1, 1) := by decide +kernel
theorem dX2_putLastStepAway_25 : decode cX2_putLastStepAway 25 = .ok (.iconst 2, 1) := by decide +kernel
theorem dX2_putLastStepAway_26 : decode cX2_putLastStepAway 26 = .ok (.iastore, 1) := by decide +kernel
theorem dX2_putLastStepAway_27 : decode cX2_putLastStepAway 27 = .ok (.iload_n 3, 1) := by decide +kernel
theorem dX2_putLastStepAway_28 : decode cX2_putLastStepAway 28 = .ok (.aload_n 0, 1) := by decide +kernel
theorem dX2_putLastStepAway_29 : decode cX2_putLastStepAway 29 = .ok (.getfield 52, 3) := by decide +kernel
theorem dX2_putLastStepAway_32 : decode cX2_putLastStepAway 32 = .ok (.getfield 148, 3) := by decide +kernel
theorem dX2_putLastStepAway_35 : decode cX2_putLastStepAway 35 = .ok (.iload_n 1, 1) := by decide +kernel
theorem dX2_putLastStepAway_36 : decode cX2_putLastStepAway 36 = .ok (.iaload, 1) := by decide +kernel
theorem dX2_putLastStepAway_37 : decode cX2_putLastStepAway 37 = .ok (.isub, 1) := by decide +kernel
theorem dX2_putLastStepAway_38 : decode cX2_putLastStepAway 38 = .ok (.ireturn, 1) := by decide +kernel
set_option maxRecDepth 20000 in
theorem ggX2_letGoForward_X2_firstOpenStage : GoodIn wsX2_letGoForward wsX2_firstOpenStage := goodIn_r _ [12, 1, 2, 3, 13, 14, 15, 16, 11, 17, 4, 35, 36, 37, 38, 39, 40, 41, 42, 43, 44, 45, 46, 47, 48, 49, 50, 51, 52, 53, 54, 55, 56, 57, 58, 59, 60, 61, 62, 63, 64, 65] (by decide +kernel) (by decide +kernel)
set_option maxRecDepth 20000 in
theorem gX2_letGoForward_X2_firstOpenStage : GoodIn wsX2_letGoForward (wsV RX2 222 RX2 yX2_firstOpenStage wsX2_firstOpenStage) := goodIn_app (goodIn_of _ (by decide +kernel)) ggX2_letGoForward_X2_firstOpenStage
set_option maxRecDepth 20000 in
theorem ggX2_letGoForward_X2_isOpen : GoodIn wsX2_letGoForward wsX2_isOpen := goodIn_r _ [17, 4, 35, 36, 37, 38, 39, 40, 41, 42, 43, 44, 45, 46, 47, 48] (by decide +kernel) (by decide +kernel)
set_option maxRecDepth 20000 in
theorem gX2_letGoForward_X2_isOpen : GoodIn wsX2_letGoForward (wsV RX2 209 RX2 yX2_isOpen wsX2_isOpen) := goodIn_app (goodIn_of _ (by decide +kernel)) ggX2_letGoForward_X2_isOpen
set_option maxRecDepth 20000 in
theorem ggX2_letGoForward_X2_enterStage : GoodIn wsX2_letGoForward wsX2_enterStage := goodIn_r _ [21, 1, 22, 23, 2, 3, 4, 24, 25, 26, 27, 11, 28, 7, 29, 30, 31, 32, 33, 34, 13, 35, 36, 37, 38, 39, 40, 41, 42, 43, 44, 45, 46, 47, 48, 49, 50, 51, 52, 53, 54, 55, 56, 57, 58, 59, 60, 61, 62, 63, 64, 65] (by decide +kernel) (by decide +kernel)
set_option maxRecDepth 20000 in
theorem gX2_letGoForward_X2_enterStage : GoodIn wsX2_letGoForward (wsV RX2 180 RX2 yX2_enterStage wsX2_enterStage) := goodIn_app (goodIn_of _ (by decide +kernel)) ggX2_letGoForward_X2_enterStage
theorem dX2_letGoForward_0 : decode cX2_letGoForward 0 = .ok (.aload_n 0, 1) := by decide +kernel
theorem dX2_letGoForward_1 : decode cX2_letGoForward 1 = .ok (.iload_n 1, 1) := by decide +kernel
theorem dX2_letGoForward_2 : decode cX2_letGoForward 2 = .ok (.invokevirtual 222, 3) := by decide +kernel
theorem dX2_letGoForward_5 : decode cX2_letGoForward 5 = .ok (.istore_n 2, 1) := by decide +kernel
theorem dX2_letGoForward_6 : decode cX2_letGoForward 6 = .ok (.iload_n 2, 1) := by decide +kernel
theorem dX2_letGoForward_7 : decode cX2_letGoForward 7 = .ok (.ifCond .ge 5, 3) := by decide +kernel
theorem dX2_letGoForward_10 : decode cX2_letGoForward 10 = .ok (.iconst (-1), 1) := by decide +kernel
theorem dX2_letGoForward_11 : decode cX2_letGoForward 11 = .ok (.ireturn, 1) := by decide +kernel
theorem dX2_letGoForward_12 : decode cX2_letGoForward 12 = .ok (.aload_n 0, 1) := by decide +kernel
theorem dX2_letGoForward_13 : decode cX2_letGoForward 13 = .ok (.getfield 52, 3) := by decide +kernel
theorem dX2_letGoForward_16 : decode cX2_letGoForward 16 = .ok (.getfield 145, 3) := by decide +kernel
theorem dX2_letGoForward_19 : decode cX2_letGoForward 19 = .ok (.iload_n 1, 1) := by decide +kernel
theorem dX2_letGoForward_20 : decode cX2_letGoForward 20 = .ok (.iaload, 1) := by decide +kernel
theorem dX2_letGoForward_21 : decode cX2_letGoForward 21 = .ok (.istore_n 3, 1) := by decide +kernel
theorem dX2_letGoForward_22 : decode cX2_letGoForward 22 = .ok (.aload_n 0, 1) := by decide +kernel
theorem dX2_letGoForward_23 : decode cX2_letGoForward 23 = .ok (.getfield 52, 3) := by decide +kernel
theorem dX2_letGoForward_26 : decode cX2_letGoForward 26 = .ok (.getfield 148, 3) := by decide +kernel
theorem dX2_letGoForward_29 : decode cX2_letGoForward 29 = .ok (.iload_n 1, 1) := by decide +kernel
theorem dX2_letGoForward_30 : decode cX2_letGoForward 30 = .ok (.iaload, 1) := by decide +kernel
theorem dX2_letGoForward_31 : decode cX2_letGoForward 31 = .ok (.istore 4, 2) := by decide +kernel
theorem dX2_letGoForward_33 : decode cX2_letGoForward 33 = .ok (.iload 4, 2) := by decide +kernel
theorem dX2_letGoForward_35 : decode cX2_letGoForward 35 = .ok (.iload_n 3, 1) := by decide +kernel
theorem dX2_letGoForward_36 : decode cX2_letGoForward 36 = .ok (.if_icmp .ge 43, 3) := by decide +kernel
theorem dX2_letGoForward_39 : decode cX2_letGoForward 39 = .ok (.aload_n 0, 1) := by decide +kernel
theorem dX2_letGoForward_40 : decode cX2_letGoForward 40 = .ok (.iload 4, 2) := by decide +kernel
theorem dX2_letGoForward_42 : decode cX2_letGoForward 42 = .ok (.invokevirtual 209, 3) := by decide +kernel
theorem dX2_letGoForward_45 : decode cX2_letGoForward 45 = .ok (.ifCond .eq 28, 3) := by decide +kernel
theorem dX2_letGoForward_48 : decode cX2_letGoForward 48 = .ok (.aload_n 0, 1) := by decide +kernel
theorem dX2_letGoForward_49 : decode cX2_letGoForward 49 = .ok (.getfield 37, 3) := by decide +kernel
theorem dX2_letGoForward_52 : decode cX2_letGoForward 52 = .ok (.iload 4, 2) := by decide +kernel
theorem dX2_letGoForward_54 : decode cX2_letGoForward 54 = .ok (.iconst 0, 1) := by decide +kernel
theorem dX2_letGoForward_55 : decode cX2_letGoForward 55 = .ok (.iastore, 1) := by decide +kernel
theorem dX2_letGoForward_56 : decode cX2_letGoForward 56 = .ok (.aload_n 0, 1) := by decide +kernel
theorem dX2_letGoForward_57 : decode cX2_letGoForward 57 = .ok (.getfield 43, 3) := by decide +kernel
theorem dX2_letGoForward_60 : decode cX2_letGoForward 60 = .ok (.iload 4, 2) := by decide +kernel
theorem dX2_letGoForward_62 : decode cX2_letGoForward 62 = .ok (.aload_n 0, 1) := by decide +kernel
theorem dX2_letGoForward_63 : decode cX2_letGoForward 63 = .ok (.getfield 52, 3) := by decide +kernel
theorem dX2_letGoForward_66 : decode cX2_letGoForward 66 = .ok (.getfield 76, 3) := by decide +kernel
theorem dX2_letGoForward_69 : decode cX2_letGoForward 69 = .ok (.iload 4, 2) := by decide +kernel
theorem dX2_letGoForward_71 : decode cX2_letGoForward 71 = .ok (.iaload, 1) := by decide +kernel
theorem dX2_letGoForward_72 : decode cX2_letGoForward 72 = .ok (.iastore, 1) := by decide +kernel
theorem dX2_letGoForward_73 : decode cX2_letGoForward 73 = .ok (.iinc 4 1, 3) := by decide +kernel
theorem dX2_letGoForward_76 : decode cX2_letGoForward 76 = .ok (.goto (-43), 3) := by decide +kernel
theorem dX2_letGoForward_79 : decode cX2_letGoForward 79 = .ok (.aload_n 0, 1) := by decide +kernel
theorem dX2_letGoForward_80 : decode cX2_letGoForward 80 = .ok (.getfield 25, 3) := by decide +kernel
theorem dX2_letGoForward_83 : decode cX2_letGoForward 83 = .ok (.iload_n 1, 1) := by decide +kernel
theorem dX2_letGoForward_84 : decode cX2_letGoForward 84 = .ok (.iconst 1, 1) := by decide +kernel
theorem dX2_letGoForward_85 : decode cX2_letGoForward 85 = .ok (.iastore, 1) := by decide +kernel
theorem dX2_letGoForward_86 : decode cX2_letGoForward 86 = .ok (.aload_n 0, 1) := by decide +kernel
theorem dX2_letGoForward_87 : decode cX2_letGoForward 87 = .ok (.iload_n 1, 1) := by decide +kernel
theorem dX2_letGoForward_88 : decode cX2_letGoForward 88 = .ok (.iload_n 2, 1) := by decide +kernel
theorem dX2_letGoForward_89 : decode cX2_letGoForward 89 = .ok (.invokevirtual 180, 3) := by decide +kernel
theorem dX2_letGoForward_92 : decode cX2_letGoForward 92 = .ok (.iload_n 2, 1) := by decide +kernel
theorem dX2_letGoForward_93 : decode cX2_letGoForward 93 = .ok (.ireturn, 1) := by decide +kernel
set_option maxRecDepth 20000 in
theorem ggX2_firstOpenStage_X2_isOpen : GoodIn wsX2_firstOpenStage wsX2_isOpen := goodIn_r _ [9, 10, 11, 12, 13, 14, 15, 16, 17, 18, 19, 20, 21, 22, 23, 24] (by decide +kernel) (by decide +kernel)
set_option maxRecDepth 20000 in
theorem gX2_firstOpenStage_X2_isOpen : GoodIn wsX2_firstOpenStage (wsV RX2 209 RX2 yX2_isOpen wsX2_isOpen) := goodIn_app (goodIn_of _ (by decide +kernel)) ggX2_firstOpenStage_X2_isOpen
theorem dX2_firstOpenStage_0 : decode cX2_firstOpenStage 0 = .ok (.aload_n 0, 1) := by decide +kernel
theorem dX2_firstOpenStage_1 : decode cX2_firstOpenStage 1 = .ok (.getfield 52, 3) := by decide +kernel
theorem dX2_firstOpenStage_4 : decode cX2_firstOpenStage 4 = .ok (.getfield 145, 3) := by decide +kernel
theorem dX2_firstOpenStage_7 : decode cX2_firstOpenStage 7 = .ok (.iload_n 1, 1) := by decide +kernel
theorem dX2_firstOpenStage_8 : decode cX2_firstOpenStage 8 = .ok (.iaload, 1) := by decide +kernel
theorem dX2_firstOpenStage_9 : decode cX2_firstOpenStage 9 = .ok (.istore_n 2, 1) := by decide +kernel
theorem dX2_firstOpenStage_10 : decode cX2_firstOpenStage 10 = .ok (.aload_n 0, 1) := by decide +kernel
theorem dX2_firstOpenStage_11 : decode cX2_firstOpenStage 11 = .ok (.getfield 52, 3) := by decide +kernel
theorem dX2_firstOpenStage_14 : decode cX2_firstOpenStage 14 = .ok (.getfield 148, 3) := by decide +kernel
theorem dX2_firstOpenStage_17 : decode cX2_firstOpenStage 17 = .ok (.iload_n 1, 1) := by decide +kernel
theorem dX2_firstOpenStage_18 : decode cX2_firstOpenStage 18 = .ok (.iaload, 1) := by decide +kernel
theorem dX2_firstOpenStage_19 : decode cX2_firstOpenStage 19 = .ok (.istore_n 3, 1) := by decide +kernel
theorem dX2_firstOpenStage_20 : decode cX2_firstOpenStage 20 = .ok (.iload_n 3, 1) := by decide +kernel
theorem dX2_firstOpenStage_21 : decode cX2_firstOpenStage 21 = .ok (.iload_n 2, 1) := by decide +kernel
theorem dX2_firstOpenStage_22 : decode cX2_firstOpenStage 22 = .ok (.if_icmp .ge 27, 3) := by decide +kernel
theorem dX2_firstOpenStage_25 : decode cX2_firstOpenStage 25 = .ok (.aload_n 0, 1) := by decide +kernel
theorem dX2_firstOpenStage_26 : decode cX2_firstOpenStage 26 = .ok (.iload_n 3, 1) := by decide +kernel
theorem dX2_firstOpenStage_27 : decode cX2_firstOpenStage 27 = .ok (.invokevirtual 209, 3) := by decide +kernel
theorem dX2_firstOpenStage_30 : decode cX2_firstOpenStage 30 = .ok (.ifCond .eq 13, 3) := by decide +kernel
theorem dX2_firstOpenStage_33 : decode cX2_firstOpenStage 33 = .ok (.aload_n 0, 1) := by decide +kernel
theorem dX2_firstOpenStage_34 : decode cX2_firstOpenStage 34 = .ok (.getfield 52, 3) := by decide +kernel
theorem dX2_firstOpenStage_37 : decode cX2_firstOpenStage 37 = .ok (.getfield 130, 3) := by decide +kernel
theorem dX2_firstOpenStage_40 : decode cX2_firstOpenStage 40 = .ok (.iload_n 3, 1) := by decide +kernel
theorem dX2_firstOpenStage_41 : decode cX2_firstOpenStage 41 = .ok (.iaload, 1) := by decide +kernel
theorem dX2_firstOpenStage_42 : decode cX2_firstOpenStage 42 = .ok (.ireturn, 1) := by decide +kernel
theorem dX2_firstOpenStage_43 : decode cX2_firstOpenStage 43 = .ok (.iinc 3 1, 3) := by decide +kernel
theorem dX2_firstOpenStage_46 : decode cX2_firstOpenStage 46 = .ok (.goto (-26), 3) := by decide +kernel
theorem dX2_firstOpenStage_49 : decode cX2_firstOpenStage 49 = .ok (.iconst (-1), 1) := by decide +kernel
theorem dX2_firstOpenStage_50 : decode cX2_firstOpenStage 50 = .ok (.ireturn, 1) := by decide +kernel
