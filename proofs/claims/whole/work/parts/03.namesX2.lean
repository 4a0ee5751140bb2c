theorem dX2_init_0 : decode cX2_init 0 = .ok (.aload_n 0, 1) := by decide +kernel
theorem dX2_init_1 : decode cX2_init 1 = .ok (.invokespecial 1, 3) := by decide +kernel
theorem dX2_init_4 : decode cX2_init 4 = .ok (.aload_n 0, 1) := by decide +kernel
theorem dX2_init_5 : decode cX2_init 5 = .ok (.bipush 8, 2) := by decide +kernel
theorem dX2_init_7 : decode cX2_init 7 = .ok (.newarray .int, 2) := by decide +kernel
theorem dX2_init_9 : decode cX2_init 9 = .ok (.putfield 7, 3) := by decide +kernel
theorem dX2_init_12 : decode cX2_init 12 = .ok (.aload_n 0, 1) := by decide +kernel
theorem dX2_init_13 : decode cX2_init 13 = .ok (.iconst 4, 1) := by decide +kernel
theorem dX2_init_14 : decode cX2_init 14 = .ok (.newarray .int, 2) := by decide +kernel
theorem dX2_init_16 : decode cX2_init 16 = .ok (.putfield 13, 3) := by decide +kernel
theorem dX2_init_19 : decode cX2_init 19 = .ok (.aload_n 0, 1) := by decide +kernel
theorem dX2_init_20 : decode cX2_init 20 = .ok (.sipush 4200, 3) := by decide +kernel
theorem dX2_init_23 : decode cX2_init 23 = .ok (.newarray .int, 2) := by decide +kernel
theorem dX2_init_25 : decode cX2_init 25 = .ok (.putfield 16, 3) := by decide +kernel
theorem dX2_init_28 : decode cX2_init 28 = .ok (.aload_n 0, 1) := by decide +kernel
theorem dX2_init_29 : decode cX2_init 29 = .ok (.ldc 19, 2) := by decide +kernel
theorem dX2_init_31 : decode cX2_init 31 = .ok (.newarray .int, 2) := by decide +kernel
theorem dX2_init_33 : decode cX2_init 33 = .ok (.putfield 20, 3) := by decide +kernel
theorem dX2_init_36 : decode cX2_init 36 = .ok (.aload_n 0, 1) := by decide +kernel
theorem dX2_init_37 : decode cX2_init 37 = .ok (.sipush 4200, 3) := by decide +kernel
theorem dX2_init_40 : decode cX2_init 40 = .ok (.newarray .int, 2) := by decide +kernel
theorem dX2_init_42 : decode cX2_init 42 = .ok (.putfield 23, 3) := by decide +kernel
theorem dX2_init_45 : decode cX2_init 45 = .ok (.aload_n 0, 1) := by decide +kernel
theorem dX2_init_46 : decode cX2_init 46 = .ok (.sipush 4200, 3) := by decide +kernel
theorem dX2_init_49 : decode cX2_init 49 = .ok (.newarray .int, 2) := by decide +kernel
theorem dX2_init_51 : decode cX2_init 51 = .ok (.putfield 26, 3) := by decide +kernel
theorem dX2_init_54 : decode cX2_init 54 = .ok (.aload_n 0, 1) := by decide +kernel
theorem dX2_init_55 : decode cX2_init 55 = .ok (.sipush 4200, 3) := by decide +kernel
theorem dX2_init_58 : decode cX2_init 58 = .ok (.newarray .int, 2) := by decide +kernel
theorem dX2_init_60 : decode cX2_init 60 = .ok (.putfield 29, 3) := by decide +kernel
theorem dX2_init_63 : decode cX2_init 63 = .ok (.aload_n 0, 1) := by decide +kernel
theorem dX2_init_64 : decode cX2_init 64 = .ok (.sipush 4200, 3) := by decide +kernel
theorem dX2_init_67 : decode cX2_init 67 = .ok (.newarray .int, 2) := by decide +kernel
theorem dX2_init_69 : decode cX2_init 69 = .ok (.putfield 32, 3) := by decide +kernel
theorem dX2_init_72 : decode cX2_init 72 = .ok (.aload_n 0, 1) := by decide +kernel
theorem dX2_init_73 : decode cX2_init 73 = .ok (.sipush 4200, 3) := by decide +kernel
theorem dX2_init_76 : decode cX2_init 76 = .ok (.newarray .long, 2) := by decide +kernel
theorem dX2_init_78 : decode cX2_init 78 = .ok (.putfield 35, 3) := by decide +kernel
theorem dX2_init_81 : decode cX2_init 81 = .ok (.aload_n 0, 1) := by decide +kernel
theorem dX2_init_82 : decode cX2_init 82 = .ok (.sipush 4200, 3) := by decide +kernel
theorem dX2_init_85 : decode cX2_init 85 = .ok (.newarray .int, 2) := by decide +kernel
theorem dX2_init_87 : decode cX2_init 87 = .ok (.putfield 39, 3) := by decide +kernel
theorem dX2_init_90 : decode cX2_init 90 = .ok (.aload_n 0, 1) := by decide +kernel
theorem dX2_init_91 : decode cX2_init 91 = .ok (.sipush 4200, 3) := by decide +kernel
theorem dX2_init_94 : decode cX2_init 94 = .ok (.newarray .boolean, 2) := by decide +kernel
theorem dX2_init_96 : decode cX2_init 96 = .ok (.putfield 42, 3) := by decide +kernel
theorem dX2_init_99 : decode cX2_init 99 = .ok (.aload_n 0, 1) := by decide +kernel
theorem dX2_init_100 : decode cX2_init 100 = .ok (.sipush 4200, 3) := by decide +kernel
theorem dX2_init_103 : decode cX2_init 103 = .ok (.newarray .int, 2) := by decide +kernel
theorem dX2_init_105 : decode cX2_init 105 = .ok (.putfield 46, 3) := by decide +kernel
theorem dX2_init_108 : decode cX2_init 108 = .ok (.aload_n 0, 1) := by decide +kernel
theorem dX2_init_109 : decode cX2_init 109 = .ok (.sipush 4200, 3) := by decide +kernel
theorem dX2_init_112 : decode cX2_init 112 = .ok (.newarray .int, 2) := by decide +kernel
theorem dX2_init_114 : decode cX2_init 114 = .ok (.putfield 49, 3) := by decide +kernel
theorem dX2_init_117 : decode cX2_init 117 = .ok (.aload_n 0, 1) := by decide +kernel
theorem dX2_init_118 : decode cX2_init 118 = .ok (.sipush 4200, 3) := by decide +kernel
theorem dX2_init_121 : decode cX2_init 121 = .ok (.newarray .long, 2) := by decide +kernel
theorem dX2_init_123 : decode cX2_init 123 = .ok (.putfield 52, 3) := by decide +kernel
theorem dX2_init_126 : decode cX2_init 126 = .ok (.aload_n 0, 1) := by decide +kernel
theorem dX2_init_127 : decode cX2_init 127 = .ok (.bipush 16, 2) := by decide +kernel
theorem dX2_init_129 : decode cX2_init 129 = .ok (.newarray .int, 2) := by decide +kernel
theorem dX2_init_131 : decode cX2_init 131 = .ok (.putfield 55, 3) := by decide +kernel
theorem dX2_init_134 : decode cX2_init 134 = .ok (.aload_n 0, 1) := by decide +kernel
theorem dX2_init_135 : decode cX2_init 135 = .ok (.bipush 24, 2) := by decide +kernel
theorem dX2_init_137 : decode cX2_init 137 = .ok (.newarray .int, 2) := by decide +kernel
theorem dX2_init_139 : decode cX2_init 139 = .ok (.putfield 58, 3) := by decide +kernel
theorem dX2_init_142 : decode cX2_init 142 = .ok (.aload_n 0, 1) := by decide +kernel
theorem dX2_init_143 : decode cX2_init 143 = .ok (.bipush 24, 2) := by decide +kernel
theorem dX2_init_145 : decode cX2_init 145 = .ok (.newarray .int, 2) := by decide +kernel
theorem dX2_init_147 : decode cX2_init 147 = .ok (.putfield 61, 3) := by decide +kernel
theorem dX2_init_150 : decode cX2_init 150 = .ok (.aload_n 0, 1) := by decide +kernel
theorem dX2_init_151 : decode cX2_init 151 = .ok (.bipush 24, 2) := by decide +kernel
theorem dX2_init_153 : decode cX2_init 153 = .ok (.newarray .int, 2) := by decide +kernel
theorem dX2_init_155 : decode cX2_init 155 = .ok (.putfield 64, 3) := by decide +kernel
theorem dX2_init_158 : decode cX2_init 158 = .ok (.aload_n 0, 1) := by decide +kernel
theorem dX2_init_159 : decode cX2_init 159 = .ok (.bipush 24, 2) := by decide +kernel
theorem dX2_init_161 : decode cX2_init 161 = .ok (.newarray .int, 2) := by decide +kernel
theorem dX2_init_163 : decode cX2_init 163 = .ok (.putfield 67, 3) := by decide +kernel
theorem dX2_init_166 : decode cX2_init 166 = .ok (.aload_n 0, 1) := by decide +kernel
theorem dX2_init_167 : decode cX2_init 167 = .ok (.bipush 24, 2) := by decide +kernel
theorem dX2_init_169 : decode cX2_init 169 = .ok (.newarray .long, 2) := by decide +kernel
theorem dX2_init_171 : decode cX2_init 171 = .ok (.putfield 70, 3) := by decide +kernel
theorem dX2_init_174 : decode cX2_init 174 = .ok (.aload_n 0, 1) := by decide +kernel
theorem dX2_init_175 : decode cX2_init 175 = .ok (.invokevirtual 73, 3) := by decide +kernel
theorem dX2_init_178 : decode cX2_init 178 = .ok (.pop, 1) := by decide +kernel
theorem dX2_init_179 : decode cX2_init 179 = .ok (.return_, 1) := by decide +kernel
theorem dX2_in_0 : decode cX2_in 0 = .ok (.iload_n 0, 1) := by decide +kernel
theorem dX2_in_1 : decode cX2_in 1 = .ok (.iload_n 1, 1) := by decide +kernel
theorem dX2_in_2 : decode cX2_in 2 = .ok (.if_icmp .lt 12, 3) := by decide +kernel
theorem dX2_in_5 : decode cX2_in 5 = .ok (.iload_n 0, 1) := by decide +kernel
theorem dX2_in_6 : decode cX2_in 6 = .ok (.iload_n 2, 1) := by decide +kernel
theorem dX2_in_7 : decode cX2_in 7 = .ok (.if_icmp .gt 7, 3) := by decide +kernel
theorem dX2_in_10 : decode cX2_in 10 = .ok (.iconst 1, 1) := by decide +kernel
theorem dX2_in_11 : decode cX2_in 11 = .ok (.goto 4, 3) := by decide +kernel
theorem dX2_in_14 : decode cX2_in 14 = .ok (.iconst 0, 1) := by decide +kernel
theorem dX2_in_15 : decode cX2_in 15 = .ok (.ireturn, 1) := by decide +kernel
set_option maxRecDepth 20000 in
theorem ggX2_isPlace_X2_in : GoodIn wsX2_isPlace wsX2_in := goodIn_r _ [4] (by decide +kernel) (by decide +kernel)
set_option maxRecDepth 20000 in
theorem gX2_isPlace_X2_in : GoodIn wsX2_isPlace (va_wsS RX2 77 yX2_in wsX2_in) := goodIn_app (goodIn_of _ (by decide +kernel)) ggX2_isPlace_X2_in
theorem dX2_isPlace_0 : decode cX2_isPlace 0 = .ok (.iload_n 0, 1) := by decide +kernel
theorem dX2_isPlace_1 : decode cX2_isPlace 1 = .ok (.iconst 0, 1) := by decide +kernel
theorem dX2_isPlace_2 : decode cX2_isPlace 2 = .ok (.bipush 15, 2) := by decide +kernel
theorem dX2_isPlace_4 : decode cX2_isPlace 4 = .ok (.invokestatic 77, 3) := by decide +kernel
theorem dX2_isPlace_7 : decode cX2_isPlace 7 = .ok (.ireturn, 1) := by decide +kernel
theorem dX2_clear_0 : decode cX2_clear 0 = .ok (.aload_n 0, 1) := by decide +kernel
theorem dX2_clear_1 : decode cX2_clear 1 = .ok (.getfield 81, 3) := by decide +kernel
theorem dX2_clear_4 : decode cX2_clear 4 = .ok (.istore_n 1, 1) := by decide +kernel
theorem dX2_clear_5 : decode cX2_clear 5 = .ok (.iconst 0, 1) := by decide +kernel
theorem dX2_clear_6 : decode cX2_clear 6 = .ok (.istore_n 2, 1) := by decide +kernel
theorem dX2_clear_7 : decode cX2_clear 7 = .ok (.iload_n 2, 1) := by decide +kernel
theorem dX2_clear_8 : decode cX2_clear 8 = .ok (.bipush 8, 2) := by decide +kernel
theorem dX2_clear_10 : decode cX2_clear 10 = .ok (.if_icmp .ge 16, 3) := by decide +kernel
theorem dX2_clear_13 : decode cX2_clear 13 = .ok (.aload_n 0, 1) := by decide +kernel
theorem dX2_clear_14 : decode cX2_clear 14 = .ok (.getfield 7, 3) := by decide +kernel
theorem dX2_clear_17 : decode cX2_clear 17 = .ok (.iload_n 2, 1) := by decide +kernel
theorem dX2_clear_18 : decode cX2_clear 18 = .ok (.iconst 0, 1) := by decide +kernel
theorem dX2_clear_19 : decode cX2_clear 19 = .ok (.iastore, 1) := by decide +kernel
theorem dX2_clear_20 : decode cX2_clear 20 = .ok (.iinc 2 1, 3) := by decide +kernel
theorem dX2_clear_23 : decode cX2_clear 23 = .ok (.goto (-16), 3) := by decide +kernel
theorem dX2_clear_26 : decode cX2_clear 26 = .ok (.aload_n 0, 1) := by decide +kernel
theorem dX2_clear_27 : decode cX2_clear 27 = .ok (.iconst 0, 1) := by decide +kernel
theorem dX2_clear_28 : decode cX2_clear 28 = .ok (.putfield 85, 3) := by decide +kernel
theorem dX2_clear_31 : decode cX2_clear 31 = .ok (.iconst 0, 1) := by decide +kernel
theorem dX2_clear_32 : decode cX2_clear 32 = .ok (.istore_n 2, 1) := by decide +kernel
theorem dX2_clear_33 : decode cX2_clear 33 = .ok (.iload_n 2, 1) := by decide +kernel
theorem dX2_clear_34 : decode cX2_clear 34 = .ok (.iconst 4, 1) := by decide +kernel
theorem dX2_clear_35 : decode cX2_clear 35 = .ok (.if_icmp .ge 33, 3) := by decide +kernel
theorem dX2_clear_38 : decode cX2_clear 38 = .ok (.aload_n 0, 1) := by decide +kernel
theorem dX2_clear_39 : decode cX2_clear 39 = .ok (.getfield 13, 3) := by decide +kernel
theorem dX2_clear_42 : decode cX2_clear 42 = .ok (.iload_n 2, 1) := by decide +kernel
theorem dX2_clear_43 : decode cX2_clear 43 = .ok (.iload_n 2, 1) := by decide +kernel
theorem dX2_clear_44 : decode cX2_clear 44 = .ok (.iastore, 1) := by decide +kernel
theorem dX2_clear_45 : decode cX2_clear 45 = .ok (.aload_n 0, 1) := by decide +kernel
theorem dX2_clear_46 : decode cX2_clear 46 = .ok (.getfield 16, 3) := by decide +kernel
theorem dX2_clear_49 : decode cX2_clear 49 = .ok (.iload_n 2, 1) := by decide +kernel
theorem dX2_clear_50 : decode cX2_clear 50 = .ok (.iconst 0, 1) := by decide +kernel
theorem dX2_clear_51 : decode cX2_clear 51 = .ok (.iastore, 1) := by decide +kernel
theorem dX2_clear_52 : decode cX2_clear 52 = .ok (.aload_n 0, 1) := by decide +kernel
theorem dX2_clear_53 : decode cX2_clear 53 = .ok (.dup, 1) := by decide +kernel
theorem dX2_clear_54 : decode cX2_clear 54 = .ok (.getfield 85, 3) := by decide +kernel
theorem dX2_clear_57 : decode cX2_clear 57 = .ok (.iconst 1, 1) := by decide +kernel
theorem dX2_clear_58 : decode cX2_clear 58 = .ok (.iadd, 1) := by decide +kernel
theorem dX2_clear_59 : decode cX2_clear 59 = .ok (.putfield 85, 3) := by decide +kernel
theorem dX2_clear_62 : decode cX2_clear 62 = .ok (.iinc 2 1, 3) := by decide +kernel
theorem dX2_clear_65 : decode cX2_clear 65 = .ok (.goto (-32), 3) := by decide +kernel
theorem dX2_clear_68 : decode cX2_clear 68 = .ok (.iconst 0, 1) := by decide +kernel
theorem dX2_clear_69 : decode cX2_clear 69 = .ok (.istore_n 2, 1) := by decide +kernel
theorem dX2_clear_70 : decode cX2_clear 70 = .ok (.iload_n 2, 1) := by decide +kernel
theorem dX2_clear_71 : decode cX2_clear 71 = .ok (.bipush 16, 2) := by decide +kernel
theorem dX2_clear_73 : decode cX2_clear 73 = .ok (.if_icmp .ge 16, 3) := by decide +kernel
theorem dX2_clear_76 : decode cX2_clear 76 = .ok (.aload_n 0, 1) := by decide +kernel
theorem dX2_clear_77 : decode cX2_clear 77 = .ok (.getfield 55, 3) := by decide +kernel
theorem dX2_clear_80 : decode cX2_clear 80 = .ok (.iload_n 2, 1) := by decide +kernel
theorem dX2_clear_81 : decode cX2_clear 81 = .ok (.iconst 0, 1) := by decide +kernel
theorem dX2_clear_82 : decode cX2_clear 82 = .ok (.iastore, 1) := by decide +kernel
theorem dX2_clear_83 : decode cX2_clear 83 = .ok (.iinc 2 1, 3) := by decide +kernel
theorem dX2_clear_86 : decode cX2_clear 86 = .ok (.goto (-16), 3) := by decide +kernel
theorem dX2_clear_89 : decode cX2_clear 89 = .ok (.aload_n 0, 1) := by decide +kernel
theorem dX2_clear_90 : decode cX2_clear 90 = .ok (.iconst 0, 1) := by decide +kernel
theorem dX2_clear_91 : decode cX2_clear 91 = .ok (.putfield 81, 3) := by decide +kernel
theorem dX2_clear_94 : decode cX2_clear 94 = .ok (.aload_n 0, 1) := by decide +kernel
theorem dX2_clear_95 : decode cX2_clear 95 = .ok (.iconst 0, 1) := by decide +kernel
theorem dX2_clear_96 : decode cX2_clear 96 = .ok (.putfield 88, 3) := by decide +kernel
theorem dX2_clear_99 : decode cX2_clear 99 = .ok (.aload_n 0, 1) := by decide +kernel
theorem dX2_clear_100 : decode cX2_clear 100 = .ok (.iconst 0, 1) := by decide +kernel
theorem dX2_clear_101 : decode cX2_clear 101 = .ok (.putfield 91, 3) := by decide +kernel
theorem dX2_clear_104 : decode cX2_clear 104 = .ok (.aload_n 0, 1) := by decide +kernel
theorem dX2_clear_105 : decode cX2_clear 105 = .ok (.iconst 0, 1) := by decide +kernel
theorem dX2_clear_106 : decode cX2_clear 106 = .ok (.putfield 94, 3) := by decide +kernel
theorem dX2_clear_109 : decode cX2_clear 109 = .ok (.iload_n 1, 1) := by decide +kernel
theorem dX2_clear_110 : decode cX2_clear 110 = .ok (.ireturn, 1) := by decide +kernel
set_option maxRecDepth 20000 in
theorem ggX2_rate_X2_in : GoodIn wsX2_rate wsX2_in := goodIn_r _ [5] (by decide +kernel) (by decide +kernel)
set_option maxRecDepth 20000 in
theorem gX2_rate_X2_in : GoodIn wsX2_rate (va_wsS RX2 77 yX2_in wsX2_in) := goodIn_app (goodIn_of _ (by decide +kernel)) ggX2_rate_X2_in
theorem dX2_rate_0 : decode cX2_rate 0 = .ok (.iload_n 1, 1) := by decide +kernel
theorem dX2_rate_1 : decode cX2_rate 1 = .ok (.iconst 0, 1) := by decide +kernel
theorem dX2_rate_2 : decode cX2_rate 2 = .ok (.bipush 7, 2) := by decide +kernel
theorem dX2_rate_4 : decode cX2_rate 4 = .ok (.invokestatic 77, 3) := by decide +kernel
theorem dX2_rate_7 : decode cX2_rate 7 = .ok (.ifCond .ne 5, 3) := by decide +kernel
theorem dX2_rate_10 : decode cX2_rate 10 = .ok (.iconst (-1), 1) := by decide +kernel
theorem dX2_rate_11 : decode cX2_rate 11 = .ok (.ireturn, 1) := by decide +kernel
theorem dX2_rate_12 : decode cX2_rate 12 = .ok (.aload_n 0, 1) := by decide +kernel
theorem dX2_rate_13 : decode cX2_rate 13 = .ok (.getfield 7, 3) := by decide +kernel
theorem dX2_rate_16 : decode cX2_rate 16 = .ok (.iload_n 1, 1) := by decide +kernel
theorem dX2_rate_17 : decode cX2_rate 17 = .ok (.iload_n 2, 1) := by decide +kernel
theorem dX2_rate_18 : decode cX2_rate 18 = .ok (.iastore, 1) := by decide +kernel
theorem dX2_rate_19 : decode cX2_rate 19 = .ok (.iconst 1, 1) := by decide +kernel
theorem dX2_rate_20 : decode cX2_rate 20 = .ok (.ireturn, 1) := by decide +kernel
set_option maxRecDepth 20000 in
theorem ggX2_fresh_X2_in : GoodIn wsX2_fresh wsX2_in := goodIn_r _ [8] (by decide +kernel) (by decide +kernel)
set_option maxRecDepth 20000 in
theorem gX2_fresh_X2_in : GoodIn wsX2_fresh (va_wsS RX2 77 yX2_in wsX2_in) := goodIn_app (goodIn_of _ (by decide +kernel)) ggX2_fresh_X2_in
theorem dX2_fresh_0 : decode cX2_fresh 0 = .ok (.iload_n 1, 1) := by decide +kernel
theorem dX2_fresh_1 : decode cX2_fresh 1 = .ok (.iconst 0, 1) := by decide +kernel
theorem dX2_fresh_2 : decode cX2_fresh 2 = .ok (.iconst 3, 1) := by decide +kernel
theorem dX2_fresh_3 : decode cX2_fresh 3 = .ok (.invokestatic 77, 3) := by decide +kernel
theorem dX2_fresh_6 : decode cX2_fresh 6 = .ok (.ifCond .eq 13, 3) := by decide +kernel
theorem dX2_fresh_9 : decode cX2_fresh 9 = .ok (.iload_n 2, 1) := by decide +kernel
theorem dX2_fresh_10 : decode cX2_fresh 10 = .ok (.iconst 0, 1) := by decide +kernel
theorem dX2_fresh_11 : decode cX2_fresh 11 = .ok (.bipush 8, 2) := by decide +kernel
theorem dX2_fresh_13 : decode cX2_fresh 13 = .ok (.invokestatic 77, 3) := by decide +kernel
theorem dX2_fresh_16 : decode cX2_fresh 16 = .ok (.ifCond .ne 5, 3) := by decide +kernel
theorem dX2_fresh_19 : decode cX2_fresh 19 = .ok (.iconst (-1), 1) := by decide +kernel
theorem dX2_fresh_20 : decode cX2_fresh 20 = .ok (.ireturn, 1) := by decide +kernel
theorem dX2_fresh_21 : decode cX2_fresh 21 = .ok (.aload_n 0, 1) := by decide +kernel
theorem dX2_fresh_22 : decode cX2_fresh 22 = .ok (.getfield 13, 3) := by decide +kernel
theorem dX2_fresh_25 : decode cX2_fresh 25 = .ok (.iload_n 1, 1) := by decide +kernel
theorem dX2_fresh_26 : decode cX2_fresh 26 = .ok (.aload_n 0, 1) := by decide +kernel
theorem dX2_fresh_27 : decode cX2_fresh 27 = .ok (.getfield 85, 3) := by decide +kernel
theorem dX2_fresh_30 : decode cX2_fresh 30 = .ok (.iastore, 1) := by decide +kernel
theorem dX2_fresh_31 : decode cX2_fresh 31 = .ok (.aload_n 0, 1) := by decide +kernel
theorem dX2_fresh_32 : decode cX2_fresh 32 = .ok (.getfield 16, 3) := by decide +kernel
theorem dX2_fresh_35 : decode cX2_fresh 35 = .ok (.aload_n 0, 1) := by decide +kernel
theorem dX2_fresh_36 : decode cX2_fresh 36 = .ok (.getfield 85, 3) := by decide +kernel
theorem dX2_fresh_39 : decode cX2_fresh 39 = .ok (.iload_n 2, 1) := by decide +kernel
theorem dX2_fresh_40 : decode cX2_fresh 40 = .ok (.iastore, 1) := by decide +kernel
theorem dX2_fresh_41 : decode cX2_fresh 41 = .ok (.iconst 0, 1) := by decide +kernel
theorem dX2_fresh_42 : decode cX2_fresh 42 = .ok (.istore_n 3, 1) := by decide +kernel
theorem dX2_fresh_43 : decode cX2_fresh 43 = .ok (.iload_n 3, 1) := by decide +kernel
theorem dX2_fresh_44 : decode cX2_fresh 44 = .ok (.bipush 8, 2) := by decide +kernel
theorem dX2_fresh_46 : decode cX2_fresh 46 = .ok (.if_icmp .ge 24, 3) := by decide +kernel
theorem dX2_fresh_49 : decode cX2_fresh 49 = .ok (.aload_n 0, 1) := by decide +kernel
theorem dX2_fresh_50 : decode cX2_fresh 50 = .ok (.getfield 20, 3) := by decide +kernel
theorem dX2_fresh_53 : decode cX2_fresh 53 = .ok (.bipush 8, 2) := by decide +kernel
theorem dX2_fresh_55 : decode cX2_fresh 55 = .ok (.aload_n 0, 1) := by decide +kernel
theorem dX2_fresh_56 : decode cX2_fresh 56 = .ok (.getfield 85, 3) := by decide +kernel
theorem dX2_fresh_59 : decode cX2_fresh 59 = .ok (.imul, 1) := by decide +kernel
theorem dX2_fresh_60 : decode cX2_fresh 60 = .ok (.iload_n 3, 1) := by decide +kernel
theorem dX2_fresh_61 : decode cX2_fresh 61 = .ok (.iadd, 1) := by decide +kernel
theorem dX2_fresh_62 : decode cX2_fresh 62 = .ok (.iconst 0, 1) := by decide +kernel
theorem dX2_fresh_63 : decode cX2_fresh 63 = .ok (.iastore, 1) := by decide +kernel
theorem dX2_fresh_64 : decode cX2_fresh 64 = .ok (.iinc 3 1, 3) := by decide +kernel
theorem dX2_fresh_67 : decode cX2_fresh 67 = .ok (.goto (-24), 3) := by decide +kernel
theorem dX2_fresh_70 : decode cX2_fresh 70 = .ok (.aload_n 0, 1) := by decide +kernel
theorem dX2_fresh_71 : decode cX2_fresh 71 = .ok (.dup, 1) := by decide +kernel
theorem dX2_fresh_72 : decode cX2_fresh 72 = .ok (.getfield 85, 3) := by decide +kernel
theorem dX2_fresh_75 : decode cX2_fresh 75 = .ok (.iconst 1, 1) := by decide +kernel
theorem dX2_fresh_76 : decode cX2_fresh 76 = .ok (.iadd, 1) := by decide +kernel
theorem dX2_fresh_77 : decode cX2_fresh 77 = .ok (.putfield 85, 3) := by decide +kernel
theorem dX2_fresh_80 : decode cX2_fresh 80 = .ok (.iconst 1, 1) := by decide +kernel
theorem dX2_fresh_81 : decode cX2_fresh 81 = .ok (.ireturn, 1) := by decide +kernel
set_option maxRecDepth 20000 in
theorem ggX2_book_X2_in : GoodIn wsX2_book wsX2_in := goodIn_r _ [7] (by decide +kernel) (by decide +kernel)
set_option maxRecDepth 20000 in
theorem gX2_book_X2_in : GoodIn wsX2_book (va_wsS RX2 77 yX2_in wsX2_in) := goodIn_app (goodIn_of _ (by decide +kernel)) ggX2_book_X2_in
theorem dX2_book_0 : decode cX2_book 0 = .ok (.iload_n 1, 1) := by decide +kernel
theorem dX2_book_1 : decode cX2_book 1 = .ok (.iconst 0, 1) := by decide +kernel
theorem dX2_book_2 : decode cX2_book 2 = .ok (.iconst 3, 1) := by decide +kernel
theorem dX2_book_3 : decode cX2_book 3 = .ok (.invokestatic 77, 3) := by decide +kernel
theorem dX2_book_6 : decode cX2_book 6 = .ok (.ifCond .eq 24, 3) := by decide +kernel
theorem dX2_book_9 : decode cX2_book 9 = .ok (.iload_n 2, 1) := by decide +kernel
theorem dX2_book_10 : decode cX2_book 10 = .ok (.iconst 0, 1) := by decide +kernel
theorem dX2_book_11 : decode cX2_book 11 = .ok (.aload_n 0, 1) := by decide +kernel
theorem dX2_book_12 : decode cX2_book 12 = .ok (.getfield 16, 3) := by decide +kernel
theorem dX2_book_15 : decode cX2_book 15 = .ok (.aload_n 0, 1) := by decide +kernel
theorem dX2_book_16 : decode cX2_book 16 = .ok (.getfield 13, 3) := by decide +kernel
theorem dX2_book_19 : decode cX2_book 19 = .ok (.iload_n 1, 1) := by decide +kernel
theorem dX2_book_20 : decode cX2_book 20 = .ok (.iaload, 1) := by decide +kernel
theorem dX2_book_21 : decode cX2_book 21 = .ok (.iaload, 1) := by decide +kernel
theorem dX2_book_22 : decode cX2_book 22 = .ok (.iconst 1, 1) := by decide +kernel
theorem dX2_book_23 : decode cX2_book 23 = .ok (.isub, 1) := by decide +kernel
theorem dX2_book_24 : decode cX2_book 24 = .ok (.invokestatic 77, 3) := by decide +kernel
theorem dX2_book_27 : decode cX2_book 27 = .ok (.ifCond .ne 5, 3) := by decide +kernel
theorem dX2_book_30 : decode cX2_book 30 = .ok (.iconst (-1), 1) := by decide +kernel
theorem dX2_book_31 : decode cX2_book 31 = .ok (.ireturn, 1) := by decide +kernel
theorem dX2_book_32 : decode cX2_book 32 = .ok (.aload_n 0, 1) := by decide +kernel
theorem dX2_book_33 : decode cX2_book 33 = .ok (.getfield 20, 3) := by decide +kernel
theorem dX2_book_36 : decode cX2_book 36 = .ok (.bipush 8, 2) := by decide +kernel
theorem dX2_book_38 : decode cX2_book 38 = .ok (.aload_n 0, 1) := by decide +kernel
theorem dX2_book_39 : decode cX2_book 39 = .ok (.getfield 13, 3) := by decide +kernel
theorem dX2_book_42 : decode cX2_book 42 = .ok (.iload_n 1, 1) := by decide +kernel
theorem dX2_book_43 : decode cX2_book 43 = .ok (.iaload, 1) := by decide +kernel
theorem dX2_book_44 : decode cX2_book 44 = .ok (.imul, 1) := by decide +kernel
theorem dX2_book_45 : decode cX2_book 45 = .ok (.iload_n 2, 1) := by decide +kernel
theorem dX2_book_46 : decode cX2_book 46 = .ok (.iadd, 1) := by decide +kernel
theorem dX2_book_47 : decode cX2_book 47 = .ok (.iload_n 3, 1) := by decide +kernel
theorem dX2_book_48 : decode cX2_book 48 = .ok (.iastore, 1) := by decide +kernel
theorem dX2_book_49 : decode cX2_book 49 = .ok (.iconst 1, 1) := by decide +kernel
theorem dX2_book_50 : decode cX2_book 50 = .ok (.ireturn, 1) := by decide +kernel
theorem dX2_make_0 : decode cX2_make 0 = .ok (.aload_n 0, 1) := by decide +kernel
theorem dX2_make_1 : decode cX2_make 1 = .ok (.getfield 23, 3) := by decide +kernel
theorem dX2_make_4 : decode cX2_make 4 = .ok (.aload_n 0, 1) := by decide +kernel
theorem dX2_make_5 : decode cX2_make 5 = .ok (.getfield 81, 3) := by decide +kernel
theorem dX2_make_8 : decode cX2_make 8 = .ok (.iload_n 2, 1) := by decide +kernel
theorem dX2_make_9 : decode cX2_make 9 = .ok (.iastore, 1) := by decide +kernel
theorem dX2_make_10 : decode cX2_make 10 = .ok (.aload_n 0, 1) := by decide +kernel
theorem dX2_make_11 : decode cX2_make 11 = .ok (.getfield 26, 3) := by decide +kernel
theorem dX2_make_14 : decode cX2_make 14 = .ok (.aload_n 0, 1) := by decide +kernel
theorem dX2_make_15 : decode cX2_make 15 = .ok (.getfield 81, 3) := by decide +kernel
theorem dX2_make_18 : decode cX2_make 18 = .ok (.iload_n 3, 1) := by decide +kernel
theorem dX2_make_19 : decode cX2_make 19 = .ok (.iastore, 1) := by decide +kernel
theorem dX2_make_20 : decode cX2_make 20 = .ok (.aload_n 0, 1) := by decide +kernel
theorem dX2_make_21 : decode cX2_make 21 = .ok (.getfield 29, 3) := by decide +kernel
theorem dX2_make_24 : decode cX2_make 24 = .ok (.aload_n 0, 1) := by decide +kernel
theorem dX2_make_25 : decode cX2_make 25 = .ok (.getfield 81, 3) := by decide +kernel
theorem dX2_make_28 : decode cX2_make 28 = .ok (.iload 4, 2) := by decide +kernel
theorem dX2_make_30 : decode cX2_make 30 = .ok (.iastore, 1) := by decide +kernel
theorem dX2_make_31 : decode cX2_make 31 = .ok (.aload_n 0, 1) := by decide +kernel
theorem dX2_make_32 : decode cX2_make 32 = .ok (.getfield 32, 3) := by decide +kernel
theorem dX2_make_35 : decode cX2_make 35 = .ok (.aload_n 0, 1) := by decide +kernel
theorem dX2_make_36 : decode cX2_make 36 = .ok (.getfield 81, 3) := by decide +kernel
theorem dX2_make_39 : decode cX2_make 39 = .ok (.iload 5, 2) := by decide +kernel
theorem dX2_make_41 : decode cX2_make 41 = .ok (.iastore, 1) := by decide +kernel
theorem dX2_make_42 : decode cX2_make 42 = .ok (.aload_n 0, 1) := by decide +kernel
theorem dX2_make_43 : decode cX2_make 43 = .ok (.getfield 35, 3) := by decide +kernel
theorem dX2_make_46 : decode cX2_make 46 = .ok (.aload_n 0, 1) := by decide +kernel
theorem dX2_make_47 : decode cX2_make 47 = .ok (.getfield 81, 3) := by decide +kernel
theorem dX2_make_50 : decode cX2_make 50 = .ok (.lload 6, 2) := by decide +kernel
theorem dX2_make_52 : decode cX2_make 52 = .ok (.lastore, 1) := by decide +kernel
theorem dX2_make_53 : decode cX2_make 53 = .ok (.aload_n 0, 1) := by decide +kernel
theorem dX2_make_54 : decode cX2_make 54 = .ok (.getfield 39, 3) := by decide +kernel
theorem dX2_make_57 : decode cX2_make 57 = .ok (.aload_n 0, 1) := by decide +kernel
theorem dX2_make_58 : decode cX2_make 58 = .ok (.getfield 81, 3) := by decide +kernel
theorem dX2_make_61 : decode cX2_make 61 = .ok (.iconst 0, 1) := by decide +kernel
theorem dX2_make_62 : decode cX2_make 62 = .ok (.iastore, 1) := by decide +kernel
theorem dX2_make_63 : decode cX2_make 63 = .ok (.aload_n 0, 1) := by decide +kernel
theorem dX2_make_64 : decode cX2_make 64 = .ok (.getfield 42, 3) := by decide +kernel
theorem dX2_make_67 : decode cX2_make 67 = .ok (.aload_n 0, 1) := by decide +kernel
theorem dX2_make_68 : decode cX2_make 68 = .ok (.getfield 81, 3) := by decide +kernel
theorem dX2_make_71 : decode cX2_make 71 = .ok (.iconst 0, 1) := by decide +kernel
theorem dX2_make_72 : decode cX2_make 72 = .ok (.bastore, 1) := by decide +kernel
theorem dX2_make_73 : decode cX2_make 73 = .ok (.aload_n 0, 1) := by decide +kernel
theorem dX2_make_74 : decode cX2_make 74 = .ok (.getfield 55, 3) := by decide +kernel
theorem dX2_make_77 : decode cX2_make 77 = .ok (.iload_n 1, 1) := by decide +kernel
theorem dX2_make_78 : decode cX2_make 78 = .ok (.aload_n 0, 1) := by decide +kernel
theorem dX2_make_79 : decode cX2_make 79 = .ok (.getfield 81, 3) := by decide +kernel
theorem dX2_make_82 : decode cX2_make 82 = .ok (.iconst 1, 1) := by decide +kernel
theorem dX2_make_83 : decode cX2_make 83 = .ok (.iadd, 1) := by decide +kernel
theorem dX2_make_84 : decode cX2_make 84 = .ok (.iastore, 1) := by decide +kernel
theorem dX2_make_85 : decode cX2_make 85 = .ok (.aload_n 0, 1) := by decide +kernel
theorem dX2_make_86 : decode cX2_make 86 = .ok (.dup, 1) := by decide +kernel
theorem dX2_make_87 : decode cX2_make 87 = .ok (.getfield 81, 3) := by decide +kernel
theorem dX2_make_90 : decode cX2_make 90 = .ok (.iconst 1, 1) := by decide +kernel
theorem dX2_make_91 : decode cX2_make 91 = .ok (.iadd, 1) := by decide +kernel
theorem dX2_make_92 : decode cX2_make 92 = .ok (.putfield 81, 3) := by decide +kernel
theorem dX2_make_95 : decode cX2_make 95 = .ok (.aload_n 0, 1) := by decide +kernel
theorem dX2_make_96 : decode cX2_make 96 = .ok (.getfield 81, 3) := by decide +kernel
theorem dX2_make_99 : decode cX2_make 99 = .ok (.ireturn, 1) := by decide +kernel
theorem dX2_at_0 : decode cX2_at 0 = .ok (.aload_n 0, 1) := by decide +kernel
theorem dX2_at_1 : decode cX2_at 1 = .ok (.getfield 55, 3) := by decide +kernel
theorem dX2_at_4 : decode cX2_at 4 = .ok (.iload_n 1, 1) := by decide +kernel
theorem dX2_at_5 : decode cX2_at 5 = .ok (.iaload, 1) := by decide +kernel
theorem dX2_at_6 : decode cX2_at 6 = .ok (.iconst 1, 1) := by decide +kernel
theorem dX2_at_7 : decode cX2_at 7 = .ok (.isub, 1) := by decide +kernel
theorem dX2_at_8 : decode cX2_at 8 = .ok (.ireturn, 1) := by decide +kernel
set_option maxRecDepth 20000 in
theorem ggX2_against_X2_isPlace : GoodIn wsX2_against wsX2_isPlace := goodIn_r _ [4, 5, 6, 3, 7] (by decide +kernel) (by decide +kernel)
set_option maxRecDepth 20000 in
theorem gX2_against_X2_isPlace : GoodIn wsX2_against (va_wsS RX2 97 yX2_isPlace wsX2_isPlace) := goodIn_app (goodIn_of _ (by decide +kernel)) ggX2_against_X2_isPlace
set_option maxRecDepth 20000 in
theorem ggX2_against_X2_at : GoodIn wsX2_against wsX2_at := goodIn_r _ [11, 12, 13, 14, 15, 16, 17, 18, 19, 20, 21, 22, 23, 24, 25, 26, 27, 28, 29, 30, 31, 32, 33, 34, 35, 36, 37, 38, 39, 40] (by decide +kernel) (by decide +kernel)
set_option maxRecDepth 20000 in
theorem gX2_against_X2_at : GoodIn wsX2_against (wsV RX2 101 RX2 yX2_at wsX2_at) := goodIn_app (goodIn_of _ (by decide +kernel)) ggX2_against_X2_at
theorem dX2_against_0 : decode cX2_against 0 = .ok (.iload_n 1, 1) := by decide +kernel
theorem dX2_against_1 : decode cX2_against 1 = .ok (.invokestatic 97, 3) := by decide +kernel
theorem dX2_against_4 : decode cX2_against 4 = .ok (.ifCond .eq 42, 3) := by decide +kernel
theorem dX2_against_7 : decode cX2_against 7 = .ok (.iload_n 2, 1) := by decide +kernel
theorem dX2_against_8 : decode cX2_against 8 = .ok (.invokestatic 97, 3) := by decide +kernel
theorem dX2_against_11 : decode cX2_against 11 = .ok (.ifCond .eq 35, 3) := by decide +kernel
theorem dX2_against_14 : decode cX2_against 14 = .ok (.iload_n 3, 1) := by decide +kernel
theorem dX2_against_15 : decode cX2_against 15 = .ok (.bipush (-9), 2) := by decide +kernel
theorem dX2_against_17 : decode cX2_against 17 = .ok (.if_icmp .eq 10, 3) := by decide +kernel
theorem dX2_against_20 : decode cX2_against 20 = .ok (.iload_n 3, 1) := by decide +kernel
theorem dX2_against_21 : decode cX2_against 21 = .ok (.invokestatic 97, 3) := by decide +kernel
theorem dX2_against_24 : decode cX2_against 24 = .ok (.ifCond .eq 22, 3) := by decide +kernel
theorem dX2_against_27 : decode cX2_against 27 = .ok (.iload 4, 2) := by decide +kernel
theorem dX2_against_29 : decode cX2_against 29 = .ok (.bipush (-9), 2) := by decide +kernel
theorem dX2_against_31 : decode cX2_against 31 = .ok (.if_icmp .eq 11, 3) := by decide +kernel
theorem dX2_against_34 : decode cX2_against 34 = .ok (.iload 4, 2) := by decide +kernel
theorem dX2_against_36 : decode cX2_against 36 = .ok (.invokestatic 97, 3) := by decide +kernel
theorem dX2_against_39 : decode cX2_against 39 = .ok (.ifCond .eq 7, 3) := by decide +kernel
theorem dX2_against_42 : decode cX2_against 42 = .ok (.iconst 1, 1) := by decide +kernel
theorem dX2_against_43 : decode cX2_against 43 = .ok (.goto 4, 3) := by decide +kernel
theorem dX2_against_46 : decode cX2_against 46 = .ok (.iconst 0, 1) := by decide +kernel
theorem dX2_against_47 : decode cX2_against 47 = .ok (.istore 5, 2) := by decide +kernel
theorem dX2_against_49 : decode cX2_against 49 = .ok (.iload 5, 2) := by decide +kernel
theorem dX2_against_51 : decode cX2_against 51 = .ok (.ifCond .ne 5, 3) := by decide +kernel
theorem dX2_against_54 : decode cX2_against 54 = .ok (.iconst (-1), 1) := by decide +kernel
theorem dX2_against_55 : decode cX2_against 55 = .ok (.ireturn, 1) := by decide +kernel
theorem dX2_against_56 : decode cX2_against 56 = .ok (.aload_n 0, 1) := by decide +kernel
theorem dX2_against_57 : decode cX2_against 57 = .ok (.iload_n 2, 1) := by decide +kernel
theorem dX2_against_58 : decode cX2_against 58 = .ok (.invokevirtual 101, 3) := by decide +kernel
theorem dX2_against_61 : decode cX2_against 61 = .ok (.ifCond .lt 33, 3) := by decide +kernel
theorem dX2_against_64 : decode cX2_against 64 = .ok (.iload_n 3, 1) := by decide +kernel
theorem dX2_against_65 : decode cX2_against 65 = .ok (.bipush (-9), 2) := by decide +kernel
theorem dX2_against_67 : decode cX2_against 67 = .ok (.if_icmp .eq 11, 3) := by decide +kernel
theorem dX2_against_70 : decode cX2_against 70 = .ok (.aload_n 0, 1) := by decide +kernel
theorem dX2_against_71 : decode cX2_against 71 = .ok (.iload_n 3, 1) := by decide +kernel
theorem dX2_against_72 : decode cX2_against 72 = .ok (.invokevirtual 101, 3) := by decide +kernel
theorem dX2_against_75 : decode cX2_against 75 = .ok (.ifCond .lt 19, 3) := by decide +kernel
theorem dX2_against_78 : decode cX2_against 78 = .ok (.iload 4, 2) := by decide +kernel
theorem dX2_against_80 : decode cX2_against 80 = .ok (.bipush (-9), 2) := by decide +kernel
theorem dX2_against_82 : decode cX2_against 82 = .ok (.if_icmp .eq 17, 3) := by decide +kernel
theorem dX2_against_85 : decode cX2_against 85 = .ok (.aload_n 0, 1) := by decide +kernel
theorem dX2_against_86 : decode cX2_against 86 = .ok (.iload 4, 2) := by decide +kernel
theorem dX2_against_88 : decode cX2_against 88 = .ok (.invokevirtual 101, 3) := by decide +kernel
theorem dX2_against_91 : decode cX2_against 91 = .ok (.ifCond .ge 8, 3) := by decide +kernel
theorem dX2_against_94 : decode cX2_against 94 = .ok (.bipush (-2), 2) := by decide +kernel
theorem dX2_against_96 : decode cX2_against 96 = .ok (.goto 4, 3) := by decide +kernel
theorem dX2_against_99 : decode cX2_against 99 = .ok (.iconst 0, 1) := by decide +kernel
theorem dX2_against_100 : decode cX2_against 100 = .ok (.ireturn, 1) := by decide +kernel
set_option maxRecDepth 20000 in
theorem ggX2_flat_X2_isPlace : GoodIn wsX2_flat wsX2_isPlace := goodIn_r _ [4, 5, 6, 3, 7] (by decide +kernel) (by decide +kernel)
set_option maxRecDepth 20000 in
theorem gX2_flat_X2_isPlace : GoodIn wsX2_flat (va_wsS RX2 97 yX2_isPlace wsX2_isPlace) := goodIn_app (goodIn_of _ (by decide +kernel)) ggX2_flat_X2_isPlace
set_option maxRecDepth 20000 in
theorem ggX2_flat_X2_make : GoodIn wsX2_flat wsX2_make := goodIn_r _ [11, 12, 13, 14, 15, 16, 17, 18, 19, 20, 21, 22, 23, 24, 25, 26, 27, 28, 29, 30, 31, 32, 33, 34, 35, 36, 37, 38, 39, 40, 41, 42, 43, 44, 45, 46, 47, 48] (by decide +kernel) (by decide +kernel)
set_option maxRecDepth 20000 in
theorem gX2_flat_X2_make : GoodIn wsX2_flat (wsV RX2 105 RX2 yX2_make wsX2_make) := goodIn_app (goodIn_of _ (by decide +kernel)) ggX2_flat_X2_make
theorem dX2_flat_0 : decode cX2_flat 0 = .ok (.iload_n 1, 1) := by decide +kernel
theorem dX2_flat_1 : decode cX2_flat 1 = .ok (.invokestatic 97, 3) := by decide +kernel
theorem dX2_flat_4 : decode cX2_flat 4 = .ok (.ifCond .eq 17, 3) := by decide +kernel
theorem dX2_flat_7 : decode cX2_flat 7 = .ok (.aload_n 0, 1) := by decide +kernel
theorem dX2_flat_8 : decode cX2_flat 8 = .ok (.iload_n 1, 1) := by decide +kernel
theorem dX2_flat_9 : decode cX2_flat 9 = .ok (.iconst 0, 1) := by decide +kernel
theorem dX2_flat_10 : decode cX2_flat 10 = .ok (.iconst 0, 1) := by decide +kernel
theorem dX2_flat_11 : decode cX2_flat 11 = .ok (.iconst 0, 1) := by decide +kernel
theorem dX2_flat_12 : decode cX2_flat 12 = .ok (.iconst 0, 1) := by decide +kernel
theorem dX2_flat_13 : decode cX2_flat 13 = .ok (.iload_n 2, 1) := by decide +kernel
theorem dX2_flat_14 : decode cX2_flat 14 = .ok (.i2l, 1) := by decide +kernel
theorem dX2_flat_15 : decode cX2_flat 15 = .ok (.invokevirtual 105, 3) := by decide +kernel
theorem dX2_flat_18 : decode cX2_flat 18 = .ok (.goto 4, 3) := by decide +kernel
theorem dX2_flat_21 : decode cX2_flat 21 = .ok (.iconst (-1), 1) := by decide +kernel
theorem dX2_flat_22 : decode cX2_flat 22 = .ok (.ireturn, 1) := by decide +kernel
set_option maxRecDepth 20000 in
theorem ggX2_rated_X2_isPlace : GoodIn wsX2_rated wsX2_isPlace := goodIn_r _ [5, 6, 7, 4, 8] (by decide +kernel) (by decide +kernel)
set_option maxRecDepth 20000 in
theorem gX2_rated_X2_isPlace : GoodIn wsX2_rated (va_wsS RX2 97 yX2_isPlace wsX2_isPlace) := goodIn_app (goodIn_of _ (by decide +kernel)) ggX2_rated_X2_isPlace
set_option maxRecDepth 20000 in
theorem ggX2_rated_X2_in : GoodIn wsX2_rated wsX2_in := goodIn_r _ [8] (by decide +kernel) (by decide +kernel)
set_option maxRecDepth 20000 in
theorem gX2_rated_X2_in : GoodIn wsX2_rated (va_wsS RX2 77 yX2_in wsX2_in) := goodIn_app (goodIn_of _ (by decide +kernel)) ggX2_rated_X2_in
set_option maxRecDepth 20000 in
theorem ggX2_rated_X2_make : GoodIn wsX2_rated wsX2_make := goodIn_r _ [12, 13, 14, 15, 16, 17, 18, 19, 20, 21, 22, 23, 24, 25, 26, 27, 28, 29, 30, 31, 32, 33, 34, 35, 36, 37, 38, 39, 40, 41, 42, 43, 44, 45, 46, 47, 48, 49] (by decide +kernel) (by decide +kernel)
set_option maxRecDepth 20000 in
theorem gX2_rated_X2_make : GoodIn wsX2_rated (wsV RX2 105 RX2 yX2_make wsX2_make) := goodIn_app (goodIn_of _ (by decide +kernel)) ggX2_rated_X2_make
theorem dX2_rated_0 : decode cX2_rated 0 = .ok (.iload_n 1, 1) := by decide +kernel
theorem dX2_rated_1 : decode cX2_rated 1 = .ok (.invokestatic 97, 3) := by decide +kernel
theorem dX2_rated_4 : decode cX2_rated 4 = .ok (.ifCond .eq 32, 3) := by decide +kernel
theorem dX2_rated_7 : decode cX2_rated 7 = .ok (.iload_n 2, 1) := by decide +kernel
theorem dX2_rated_8 : decode cX2_rated 8 = .ok (.iconst 0, 1) := by decide +kernel
theorem dX2_rated_9 : decode cX2_rated 9 = .ok (.bipush 7, 2) := by decide +kernel
theorem dX2_rated_11 : decode cX2_rated 11 = .ok (.invokestatic 77, 3) := by decide +kernel
theorem dX2_rated_14 : decode cX2_rated 14 = .ok (.ifCond .eq 22, 3) := by decide +kernel
theorem dX2_rated_17 : decode cX2_rated 17 = .ok (.aload_n 0, 1) := by decide +kernel
theorem dX2_rated_18 : decode cX2_rated 18 = .ok (.iload_n 1, 1) := by decide +kernel
theorem dX2_rated_19 : decode cX2_rated 19 = .ok (.iconst 1, 1) := by decide +kernel
theorem dX2_rated_20 : decode cX2_rated 20 = .ok (.iconst 0, 1) := by decide +kernel
theorem dX2_rated_21 : decode cX2_rated 21 = .ok (.iconst 0, 1) := by decide +kernel
theorem dX2_rated_22 : decode cX2_rated 22 = .ok (.iconst 0, 1) := by decide +kernel
theorem dX2_rated_23 : decode cX2_rated 23 = .ok (.aload_n 0, 1) := by decide +kernel
theorem dX2_rated_24 : decode cX2_rated 24 = .ok (.getfield 7, 3) := by decide +kernel
theorem dX2_rated_27 : decode cX2_rated 27 = .ok (.iload_n 2, 1) := by decide +kernel
theorem dX2_rated_28 : decode cX2_rated 28 = .ok (.iaload, 1) := by decide +kernel
theorem dX2_rated_29 : decode cX2_rated 29 = .ok (.i2l, 1) := by decide +kernel
theorem dX2_rated_30 : decode cX2_rated 30 = .ok (.invokevirtual 105, 3) := by decide +kernel
theorem dX2_rated_33 : decode cX2_rated 33 = .ok (.goto 4, 3) := by decide +kernel
theorem dX2_rated_36 : decode cX2_rated 36 = .ok (.iconst (-1), 1) := by decide +kernel
theorem dX2_rated_37 : decode cX2_rated 37 = .ok (.ireturn, 1) := by decide +kernel
set_option maxRecDepth 20000 in
theorem ggX2_live_X2_isPlace : GoodIn wsX2_live wsX2_isPlace := goodIn_r _ [4, 5, 6, 3, 7] (by decide +kernel) (by decide +kernel)
set_option maxRecDepth 20000 in
theorem gX2_live_X2_isPlace : GoodIn wsX2_live (va_wsS RX2 97 yX2_isPlace wsX2_isPlace) := goodIn_app (goodIn_of _ (by decide +kernel)) ggX2_live_X2_isPlace
set_option maxRecDepth 20000 in
theorem ggX2_live_X2_in : GoodIn wsX2_live wsX2_in := goodIn_r _ [7] (by decide +kernel) (by decide +kernel)
set_option maxRecDepth 20000 in
theorem gX2_live_X2_in : GoodIn wsX2_live (va_wsS RX2 77 yX2_in wsX2_in) := goodIn_app (goodIn_of _ (by decide +kernel)) ggX2_live_X2_in
set_option maxRecDepth 20000 in
theorem ggX2_live_X2_make : GoodIn wsX2_live wsX2_make := goodIn_r _ [11, 12, 13, 14, 15, 16, 17, 18, 19, 20, 21, 22, 23, 24, 25, 26, 27, 28, 29, 30, 31, 32, 33, 34, 35, 36, 37, 38, 39, 40, 41, 42, 43, 44, 45, 46, 47, 48] (by decide +kernel) (by decide +kernel)
set_option maxRecDepth 20000 in
theorem gX2_live_X2_make : GoodIn wsX2_live (wsV RX2 105 RX2 yX2_make wsX2_make) := goodIn_app (goodIn_of _ (by decide +kernel)) ggX2_live_X2_make
theorem dX2_live_0 : decode cX2_live 0 = .ok (.iload_n 1, 1) := by decide +kernel
theorem dX2_live_1 : decode cX2_live 1 = .ok (.invokestatic 97, 3) := by decide +kernel
theorem dX2_live_4 : decode cX2_live 4 = .ok (.ifCond .eq 26, 3) := by decide +kernel
theorem dX2_live_7 : decode cX2_live 7 = .ok (.iload_n 2, 1) := by decide +kernel
theorem dX2_live_8 : decode cX2_live 8 = .ok (.iconst 0, 1) := by decide +kernel
theorem dX2_live_9 : decode cX2_live 9 = .ok (.bipush 7, 2) := by decide +kernel
theorem dX2_live_11 : decode cX2_live 11 = .ok (.invokestatic 77, 3) := by decide +kernel
theorem dX2_live_14 : decode cX2_live 14 = .ok (.ifCond .eq 16, 3) := by decide +kernel
theorem dX2_live_17 : decode cX2_live 17 = .ok (.aload_n 0, 1) := by decide +kernel
theorem dX2_live_18 : decode cX2_live 18 = .ok (.iload_n 1, 1) := by decide +kernel
theorem dX2_live_19 : decode cX2_live 19 = .ok (.iconst 2, 1) := by decide +kernel
theorem dX2_live_20 : decode cX2_live 20 = .ok (.iload_n 2, 1) := by decide +kernel
theorem dX2_live_21 : decode cX2_live 21 = .ok (.iconst 0, 1) := by decide +kernel
theorem dX2_live_22 : decode cX2_live 22 = .ok (.iconst 0, 1) := by decide +kernel
theorem dX2_live_23 : decode cX2_live 23 = .ok (.lconst 0, 1) := by decide +kernel
theorem dX2_live_24 : decode cX2_live 24 = .ok (.invokevirtual 105, 3) := by decide +kernel
theorem dX2_live_27 : decode cX2_live 27 = .ok (.goto 4, 3) := by decide +kernel
theorem dX2_live_30 : decode cX2_live 30 = .ok (.iconst (-1), 1) := by decide +kernel
theorem dX2_live_31 : decode cX2_live 31 = .ok (.ireturn, 1) := by decide +kernel
set_option maxRecDepth 20000 in
theorem ggX2_booked_X2_isPlace : GoodIn wsX2_booked wsX2_isPlace := goodIn_r _ [5, 6, 7, 4, 8] (by decide +kernel) (by decide +kernel)
set_option maxRecDepth 20000 in
theorem gX2_booked_X2_isPlace : GoodIn wsX2_booked (va_wsS RX2 97 yX2_isPlace wsX2_isPlace) := goodIn_app (goodIn_of _ (by decide +kernel)) ggX2_booked_X2_isPlace
set_option maxRecDepth 20000 in
theorem ggX2_booked_X2_in : GoodIn wsX2_booked wsX2_in := goodIn_r _ [8] (by decide +kernel) (by decide +kernel)
set_option maxRecDepth 20000 in
theorem gX2_booked_X2_in : GoodIn wsX2_booked (va_wsS RX2 77 yX2_in wsX2_in) := goodIn_app (goodIn_of _ (by decide +kernel)) ggX2_booked_X2_in
set_option maxRecDepth 20000 in
theorem ggX2_booked_X2_make : GoodIn wsX2_booked wsX2_make := goodIn_r _ [12, 13, 14, 15, 16, 17, 18, 19, 20, 21, 22, 23, 24, 25, 26, 27, 28, 29, 30, 31, 32, 33, 34, 35, 36, 37, 38, 39, 40, 41, 42, 43, 44, 45, 46, 47, 48, 49] (by decide +kernel) (by decide +kernel)
set_option maxRecDepth 20000 in
theorem gX2_booked_X2_make : GoodIn wsX2_booked (wsV RX2 105 RX2 yX2_make wsX2_make) := goodIn_app (goodIn_of _ (by decide +kernel)) ggX2_booked_X2_make
theorem dX2_booked_0 : decode cX2_booked 0 = .ok (.iload_n 1, 1) := by decide +kernel
theorem dX2_booked_1 : decode cX2_booked 1 = .ok (.invokestatic 97, 3) := by decide +kernel
theorem dX2_booked_4 : decode cX2_booked 4 = .ok (.ifCond .eq 30, 3) := by decide +kernel
theorem dX2_booked_7 : decode cX2_booked 7 = .ok (.iload_n 2, 1) := by decide +kernel
theorem dX2_booked_8 : decode cX2_booked 8 = .ok (.iconst 0, 1) := by decide +kernel
theorem dX2_booked_9 : decode cX2_booked 9 = .ok (.iconst 3, 1) := by decide +kernel
theorem dX2_booked_10 : decode cX2_booked 10 = .ok (.invokestatic 77, 3) := by decide +kernel
theorem dX2_booked_13 : decode cX2_booked 13 = .ok (.ifCond .eq 21, 3) := by decide +kernel
theorem dX2_booked_16 : decode cX2_booked 16 = .ok (.aload_n 0, 1) := by decide +kernel
theorem dX2_booked_17 : decode cX2_booked 17 = .ok (.iload_n 1, 1) := by decide +kernel
theorem dX2_booked_18 : decode cX2_booked 18 = .ok (.iconst 3, 1) := by decide +kernel
theorem dX2_booked_19 : decode cX2_booked 19 = .ok (.aload_n 0, 1) := by decide +kernel
theorem dX2_booked_20 : decode cX2_booked 20 = .ok (.getfield 13, 3) := by decide +kernel
theorem dX2_booked_23 : decode cX2_booked 23 = .ok (.iload_n 2, 1) := by decide +kernel
theorem dX2_booked_24 : decode cX2_booked 24 = .ok (.iaload, 1) := by decide +kernel
theorem dX2_booked_25 : decode cX2_booked 25 = .ok (.iconst 0, 1) := by decide +kernel
theorem dX2_booked_26 : decode cX2_booked 26 = .ok (.iconst 0, 1) := by decide +kernel
theorem dX2_booked_27 : decode cX2_booked 27 = .ok (.lconst 0, 1) := by decide +kernel
theorem dX2_booked_28 : decode cX2_booked 28 = .ok (.invokevirtual 105, 3) := by decide +kernel
theorem dX2_booked_31 : decode cX2_booked 31 = .ok (.goto 4, 3) := by decide +kernel
theorem dX2_booked_34 : decode cX2_booked 34 = .ok (.iconst (-1), 1) := by decide +kernel
theorem dX2_booked_35 : decode cX2_booked 35 = .ok (.ireturn, 1) := by decide +kernel
set_option maxRecDepth 20000 in
theorem ggX2_asWanted_X2_isPlace : GoodIn wsX2_asWanted wsX2_isPlace := goodIn_r _ [4, 5, 6, 3, 7] (by decide +kernel) (by decide +kernel)
set_option maxRecDepth 20000 in
theorem gX2_asWanted_X2_isPlace : GoodIn wsX2_asWanted (va_wsS RX2 97 yX2_isPlace wsX2_isPlace) := goodIn_app (goodIn_of _ (by decide +kernel)) ggX2_asWanted_X2_isPlace
theorem dX2_asWanted_0 : decode cX2_asWanted 0 = .ok (.iload_n 0, 1) := by decide +kernel
theorem dX2_asWanted_1 : decode cX2_asWanted 1 = .ok (.invokestatic 97, 3) := by decide +kernel
theorem dX2_asWanted_4 : decode cX2_asWanted 4 = .ok (.ifCond .eq 7, 3) := by decide +kernel
theorem dX2_asWanted_7 : decode cX2_asWanted 7 = .ok (.iload_n 0, 1) := by decide +kernel
theorem dX2_asWanted_8 : decode cX2_asWanted 8 = .ok (.goto 4, 3) := by decide +kernel
theorem dX2_asWanted_11 : decode cX2_asWanted 11 = .ok (.iconst (-1), 1) := by decide +kernel
theorem dX2_asWanted_12 : decode cX2_asWanted 12 = .ok (.ireturn, 1) := by decide +kernel
set_option maxRecDepth 20000 in
theorem ggX2_joined_X2_in : GoodIn wsX2_joined wsX2_in := goodIn_r _ [4] (by decide +kernel) (by decide +kernel)
set_option maxRecDepth 20000 in
theorem gX2_joined_X2_in : GoodIn wsX2_joined (va_wsS RX2 77 yX2_in wsX2_in) := goodIn_app (goodIn_of _ (by decide +kernel)) ggX2_joined_X2_in
set_option maxRecDepth 20000 in
theorem ggX2_joined_X2_asWanted : GoodIn wsX2_joined wsX2_asWanted := goodIn_r _ [7, 8, 9, 3, 10, 1, 2, 4] (by decide +kernel) (by decide +kernel)
set_option maxRecDepth 20000 in
theorem gX2_joined_X2_asWanted : GoodIn wsX2_joined (va_wsS RX2 109 yX2_asWanted wsX2_asWanted) := goodIn_app (goodIn_of _ (by decide +kernel)) ggX2_joined_X2_asWanted
set_option maxRecDepth 20000 in
theorem ggX2_joined_X2_against : GoodIn wsX2_joined wsX2_against := goodIn_r _ [14, 8, 9, 3, 10, 1, 2, 4, 15, 16, 17, 18, 19, 32, 33, 34, 35, 36, 37, 38, 39, 40, 41, 42, 43, 44, 45, 46, 47, 48, 49, 50, 51, 52, 53, 54, 55, 56, 57, 58, 59] (by decide +kernel) (by decide +kernel)
set_option maxRecDepth 20000 in
theorem gX2_joined_X2_against : GoodIn wsX2_joined (wsV RX2 112 RX2 yX2_against wsX2_against) := goodIn_app (goodIn_of _ (by decide +kernel)) ggX2_joined_X2_against
set_option maxRecDepth 20000 in
theorem ggX2_joined_X2_at : GoodIn wsX2_joined wsX2_at := goodIn_r _ [18, 19, 32, 33, 34, 35, 36, 37, 38, 39, 40, 41, 42, 43, 44, 45, 46, 47, 48, 49, 50, 51, 52, 53, 54, 55, 56, 57, 58, 59] (by decide +kernel) (by decide +kernel)
set_option maxRecDepth 20000 in
theorem gX2_joined_X2_at : GoodIn wsX2_joined (wsV RX2 101 RX2 yX2_at wsX2_at) := goodIn_app (goodIn_of _ (by decide +kernel)) ggX2_joined_X2_at
set_option maxRecDepth 20000 in
theorem ggX2_joined_X2_make : GoodIn wsX2_joined wsX2_make := goodIn_r _ [23, 24, 25, 26, 27, 28, 29, 30, 31, 19, 32, 33, 34, 35, 36, 37, 38, 39, 40, 41, 42, 43, 44, 45, 46, 47, 48, 49, 50, 51, 52, 53, 54, 55, 56, 57, 58, 59] (by decide +kernel) (by decide +kernel)
set_option maxRecDepth 20000 in
theorem gX2_joined_X2_make : GoodIn wsX2_joined (wsV RX2 105 RX2 yX2_make wsX2_make) := goodIn_app (goodIn_of _ (by decide +kernel)) ggX2_joined_X2_make
theorem dX2_joined_0 : decode cX2_joined 0 = .ok (.iload_n 2, 1) := by decide +kernel
theorem dX2_joined_1 : decode cX2_joined 1 = .ok (.iconst 0, 1) := by decide +kernel
theorem dX2_joined_2 : decode cX2_joined 2 = .ok (.iconst 5, 1) := by decide +kernel
theorem dX2_joined_3 : decode cX2_joined 3 = .ok (.invokestatic 77, 3) := by decide +kernel
theorem dX2_joined_6 : decode cX2_joined 6 = .ok (.ifCond .eq 19, 3) := by decide +kernel
theorem dX2_joined_9 : decode cX2_joined 9 = .ok (.aload_n 0, 1) := by decide +kernel
theorem dX2_joined_10 : decode cX2_joined 10 = .ok (.iload_n 1, 1) := by decide +kernel
theorem dX2_joined_11 : decode cX2_joined 11 = .ok (.iload_n 3, 1) := by decide +kernel
theorem dX2_joined_12 : decode cX2_joined 12 = .ok (.iload 4, 2) := by decide +kernel
theorem dX2_joined_14 : decode cX2_joined 14 = .ok (.invokestatic 109, 3) := by decide +kernel
theorem dX2_joined_17 : decode cX2_joined 17 = .ok (.bipush (-9), 2) := by decide +kernel
theorem dX2_joined_19 : decode cX2_joined 19 = .ok (.invokevirtual 112, 3) := by decide +kernel
theorem dX2_joined_22 : decode cX2_joined 22 = .ok (.goto 4, 3) := by decide +kernel
theorem dX2_joined_25 : decode cX2_joined 25 = .ok (.iconst (-1), 1) := by decide +kernel
theorem dX2_joined_26 : decode cX2_joined 26 = .ok (.istore 5, 2) := by decide +kernel
theorem dX2_joined_28 : decode cX2_joined 28 = .ok (.iload 5, 2) := by decide +kernel
theorem dX2_joined_30 : decode cX2_joined 30 = .ok (.ifCond .ge 8, 3) := by decide +kernel
theorem dX2_joined_33 : decode cX2_joined 33 = .ok (.iload 5, 2) := by decide +kernel
theorem dX2_joined_35 : decode cX2_joined 35 = .ok (.goto 23, 3) := by decide +kernel
theorem dX2_joined_38 : decode cX2_joined 38 = .ok (.aload_n 0, 1) := by decide +kernel
theorem dX2_joined_39 : decode cX2_joined 39 = .ok (.iload_n 1, 1) := by decide +kernel
theorem dX2_joined_40 : decode cX2_joined 40 = .ok (.iconst 4, 1) := by decide +kernel
theorem dX2_joined_41 : decode cX2_joined 41 = .ok (.aload_n 0, 1) := by decide +kernel
theorem dX2_joined_42 : decode cX2_joined 42 = .ok (.iload_n 3, 1) := by decide +kernel
theorem dX2_joined_43 : decode cX2_joined 43 = .ok (.invokevirtual 101, 3) := by decide +kernel
theorem dX2_joined_46 : decode cX2_joined 46 = .ok (.aload_n 0, 1) := by decide +kernel
theorem dX2_joined_47 : decode cX2_joined 47 = .ok (.iload 4, 2) := by decide +kernel
theorem dX2_joined_49 : decode cX2_joined 49 = .ok (.invokevirtual 101, 3) := by decide +kernel
theorem dX2_joined_52 : decode cX2_joined 52 = .ok (.iconst 0, 1) := by decide +kernel
theorem dX2_joined_53 : decode cX2_joined 53 = .ok (.iload_n 2, 1) := by decide +kernel
theorem dX2_joined_54 : decode cX2_joined 54 = .ok (.i2l, 1) := by decide +kernel
theorem dX2_joined_55 : decode cX2_joined 55 = .ok (.invokevirtual 105, 3) := by decide +kernel
theorem dX2_joined_58 : decode cX2_joined 58 = .ok (.ireturn, 1) := by decide +kernel
set_option maxRecDepth 20000 in
theorem ggX2_when_X2_asWanted : GoodIn wsX2_when wsX2_asWanted := goodIn_r _ [4, 5, 6, 3, 7, 8, 9, 10] (by decide +kernel) (by decide +kernel)
set_option maxRecDepth 20000 in
theorem gX2_when_X2_asWanted : GoodIn wsX2_when (va_wsS RX2 109 yX2_asWanted wsX2_asWanted) := goodIn_app (goodIn_of _ (by decide +kernel)) ggX2_when_X2_asWanted
set_option maxRecDepth 20000 in
theorem ggX2_when_X2_against : GoodIn wsX2_when wsX2_against := goodIn_r _ [14, 5, 6, 3, 7, 8, 9, 10, 15, 16, 17, 18, 19, 32, 33, 34, 35, 36, 37, 38, 39, 40, 41, 42, 43, 44, 45, 46, 47, 48, 49, 50, 51, 52, 53, 54, 55, 56, 57, 58, 59] (by decide +kernel) (by decide +kernel)
set_option maxRecDepth 20000 in
theorem gX2_when_X2_against : GoodIn wsX2_when (wsV RX2 112 RX2 yX2_against wsX2_against) := goodIn_app (goodIn_of _ (by decide +kernel)) ggX2_when_X2_against
set_option maxRecDepth 20000 in
theorem ggX2_when_X2_at : GoodIn wsX2_when wsX2_at := goodIn_r _ [18, 19, 32, 33, 34, 35, 36, 37, 38, 39, 40, 41, 42, 43, 44, 45, 46, 47, 48, 49, 50, 51, 52, 53, 54, 55, 56, 57, 58, 59] (by decide +kernel) (by decide +kernel)
set_option maxRecDepth 20000 in
theorem gX2_when_X2_at : GoodIn wsX2_when (wsV RX2 101 RX2 yX2_at wsX2_at) := goodIn_app (goodIn_of _ (by decide +kernel)) ggX2_when_X2_at
set_option maxRecDepth 20000 in
theorem ggX2_when_X2_make : GoodIn wsX2_when wsX2_make := goodIn_r _ [23, 24, 25, 26, 27, 28, 29, 30, 31, 19, 32, 33, 34, 35, 36, 37, 38, 39, 40, 41, 42, 43, 44, 45, 46, 47, 48, 49, 50, 51, 52, 53, 54, 55, 56, 57, 58, 59] (by decide +kernel) (by decide +kernel)
set_option maxRecDepth 20000 in
theorem gX2_when_X2_make : GoodIn wsX2_when (wsV RX2 105 RX2 yX2_make wsX2_make) := goodIn_app (goodIn_of _ (by decide +kernel)) ggX2_when_X2_make
theorem dX2_when_0 : decode cX2_when 0 = .ok (.aload_n 0, 1) := by decide +kernel
theorem dX2_when_1 : decode cX2_when 1 = .ok (.iload_n 1, 1) := by decide +kernel
theorem dX2_when_2 : decode cX2_when 2 = .ok (.iload_n 2, 1) := by decide +kernel
theorem dX2_when_3 : decode cX2_when 3 = .ok (.iload_n 3, 1) := by decide +kernel
theorem dX2_when_4 : decode cX2_when 4 = .ok (.invokestatic 109, 3) := by decide +kernel
theorem dX2_when_7 : decode cX2_when 7 = .ok (.iload 4, 2) := by decide +kernel
theorem dX2_when_9 : decode cX2_when 9 = .ok (.invokestatic 109, 3) := by decide +kernel
theorem dX2_when_12 : decode cX2_when 12 = .ok (.invokevirtual 112, 3) := by decide +kernel
theorem dX2_when_15 : decode cX2_when 15 = .ok (.istore 5, 2) := by decide +kernel
theorem dX2_when_17 : decode cX2_when 17 = .ok (.iload 5, 2) := by decide +kernel
theorem dX2_when_19 : decode cX2_when 19 = .ok (.ifCond .ge 8, 3) := by decide +kernel
theorem dX2_when_22 : decode cX2_when 22 = .ok (.iload 5, 2) := by decide +kernel
theorem dX2_when_24 : decode cX2_when 24 = .ok (.goto 26, 3) := by decide +kernel
theorem dX2_when_27 : decode cX2_when 27 = .ok (.aload_n 0, 1) := by decide +kernel
theorem dX2_when_28 : decode cX2_when 28 = .ok (.iload_n 1, 1) := by decide +kernel
theorem dX2_when_29 : decode cX2_when 29 = .ok (.iconst 5, 1) := by decide +kernel
theorem dX2_when_30 : decode cX2_when 30 = .ok (.aload_n 0, 1) := by decide +kernel
theorem dX2_when_31 : decode cX2_when 31 = .ok (.iload_n 2, 1) := by decide +kernel
theorem dX2_when_32 : decode cX2_when 32 = .ok (.invokevirtual 101, 3) := by decide +kernel
theorem dX2_when_35 : decode cX2_when 35 = .ok (.aload_n 0, 1) := by decide +kernel
theorem dX2_when_36 : decode cX2_when 36 = .ok (.iload_n 3, 1) := by decide +kernel
theorem dX2_when_37 : decode cX2_when 37 = .ok (.invokevirtual 101, 3) := by decide +kernel
theorem dX2_when_40 : decode cX2_when 40 = .ok (.aload_n 0, 1) := by decide +kernel
theorem dX2_when_41 : decode cX2_when 41 = .ok (.iload 4, 2) := by decide +kernel
theorem dX2_when_43 : decode cX2_when 43 = .ok (.invokevirtual 101, 3) := by decide +kernel
theorem dX2_when_46 : decode cX2_when 46 = .ok (.lconst 0, 1) := by decide +kernel
theorem dX2_when_47 : decode cX2_when 47 = .ok (.invokevirtual 105, 3) := by decide +kernel
theorem dX2_when_50 : decode cX2_when 50 = .ok (.ireturn, 1) := by decide +kernel
set_option maxRecDepth 20000 in
theorem ggX2_fixed_X2_against : GoodIn wsX2_fixed wsX2_against := goodIn_r _ [5, 6, 7, 4, 8, 9, 10, 11, 12, 13, 14, 15, 16, 29, 30, 31, 32, 33, 34, 35, 36, 37, 38, 39, 40, 41, 42, 43, 44, 45, 46, 47, 48, 49, 50, 51, 52, 53, 54, 55, 56] (by decide +kernel) (by decide +kernel)
set_option maxRecDepth 20000 in
theorem gX2_fixed_X2_against : GoodIn wsX2_fixed (wsV RX2 112 RX2 yX2_against wsX2_against) := goodIn_app (goodIn_of _ (by decide +kernel)) ggX2_fixed_X2_against
set_option maxRecDepth 20000 in
theorem ggX2_fixed_X2_at : GoodIn wsX2_fixed wsX2_at := goodIn_r _ [15, 16, 29, 30, 31, 32, 33, 34, 35, 36, 37, 38, 39, 40, 41, 42, 43, 44, 45, 46, 47, 48, 49, 50, 51, 52, 53, 54, 55, 56] (by decide +kernel) (by decide +kernel)
set_option maxRecDepth 20000 in
theorem gX2_fixed_X2_at : GoodIn wsX2_fixed (wsV RX2 101 RX2 yX2_at wsX2_at) := goodIn_app (goodIn_of _ (by decide +kernel)) ggX2_fixed_X2_at
set_option maxRecDepth 20000 in
theorem ggX2_fixed_X2_make : GoodIn wsX2_fixed wsX2_make := goodIn_r _ [20, 21, 22, 23, 24, 25, 26, 27, 28, 16, 29, 30, 31, 32, 33, 34, 35, 36, 37, 38, 39, 40, 41, 42, 43, 44, 45, 46, 47, 48, 49, 50, 51, 52, 53, 54, 55, 56] (by decide +kernel) (by decide +kernel)
set_option maxRecDepth 20000 in
theorem gX2_fixed_X2_make : GoodIn wsX2_fixed (wsV RX2 105 RX2 yX2_make wsX2_make) := goodIn_app (goodIn_of _ (by decide +kernel)) ggX2_fixed_X2_make
theorem dX2_fixed_0 : decode cX2_fixed 0 = .ok (.aload_n 0, 1) := by decide +kernel
theorem dX2_fixed_1 : decode cX2_fixed 1 = .ok (.iload_n 1, 1) := by decide +kernel
theorem dX2_fixed_2 : decode cX2_fixed 2 = .ok (.iload_n 2, 1) := by decide +kernel
theorem dX2_fixed_3 : decode cX2_fixed 3 = .ok (.bipush (-9), 2) := by decide +kernel
theorem dX2_fixed_5 : decode cX2_fixed 5 = .ok (.bipush (-9), 2) := by decide +kernel
theorem dX2_fixed_7 : decode cX2_fixed 7 = .ok (.invokevirtual 112, 3) := by decide +kernel
theorem dX2_fixed_10 : decode cX2_fixed 10 = .ok (.istore 4, 2) := by decide +kernel
theorem dX2_fixed_12 : decode cX2_fixed 12 = .ok (.iload 4, 2) := by decide +kernel
theorem dX2_fixed_14 : decode cX2_fixed 14 = .ok (.ifCond .ge 8, 3) := by decide +kernel
theorem dX2_fixed_17 : decode cX2_fixed 17 = .ok (.iload 4, 2) := by decide +kernel
theorem dX2_fixed_19 : decode cX2_fixed 19 = .ok (.goto 19, 3) := by decide +kernel
theorem dX2_fixed_22 : decode cX2_fixed 22 = .ok (.aload_n 0, 1) := by decide +kernel
theorem dX2_fixed_23 : decode cX2_fixed 23 = .ok (.iload_n 1, 1) := by decide +kernel
theorem dX2_fixed_24 : decode cX2_fixed 24 = .ok (.bipush 6, 2) := by decide +kernel
theorem dX2_fixed_26 : decode cX2_fixed 26 = .ok (.aload_n 0, 1) := by decide +kernel
theorem dX2_fixed_27 : decode cX2_fixed 27 = .ok (.iload_n 2, 1) := by decide +kernel
theorem dX2_fixed_28 : decode cX2_fixed 28 = .ok (.invokevirtual 101, 3) := by decide +kernel
theorem dX2_fixed_31 : decode cX2_fixed 31 = .ok (.iconst 0, 1) := by decide +kernel
theorem dX2_fixed_32 : decode cX2_fixed 32 = .ok (.iconst 0, 1) := by decide +kernel
theorem dX2_fixed_33 : decode cX2_fixed 33 = .ok (.iload_n 3, 1) := by decide +kernel
theorem dX2_fixed_34 : decode cX2_fixed 34 = .ok (.i2l, 1) := by decide +kernel
theorem dX2_fixed_35 : decode cX2_fixed 35 = .ok (.invokevirtual 105, 3) := by decide +kernel
theorem dX2_fixed_38 : decode cX2_fixed 38 = .ok (.ireturn, 1) := by decide +kernel
set_option maxRecDepth 20000 in
theorem ggX2_fed_X2_asWanted : GoodIn wsX2_fed wsX2_asWanted := goodIn_r _ [4, 5, 6, 3, 7, 8, 9, 10] (by decide +kernel) (by decide +kernel)
set_option maxRecDepth 20000 in
theorem gX2_fed_X2_asWanted : GoodIn wsX2_fed (va_wsS RX2 109 yX2_asWanted wsX2_asWanted) := goodIn_app (goodIn_of _ (by decide +kernel)) ggX2_fed_X2_asWanted
set_option maxRecDepth 20000 in
theorem ggX2_fed_X2_against : GoodIn wsX2_fed wsX2_against := goodIn_r _ [14, 5, 6, 3, 7, 8, 9, 10, 15, 16, 17, 18, 19, 32, 33, 34, 35, 36, 37, 38, 39, 40, 41, 42, 43, 44, 45, 46, 47, 48, 49, 50, 51, 52, 53, 54, 55, 56, 57, 58, 59] (by decide +kernel) (by decide +kernel)
set_option maxRecDepth 20000 in
theorem gX2_fed_X2_against : GoodIn wsX2_fed (wsV RX2 112 RX2 yX2_against wsX2_against) := goodIn_app (goodIn_of _ (by decide +kernel)) ggX2_fed_X2_against
set_option maxRecDepth 20000 in
theorem ggX2_fed_X2_at : GoodIn wsX2_fed wsX2_at := goodIn_r _ [18, 19, 32, 33, 34, 35, 36, 37, 38, 39, 40, 41, 42, 43, 44, 45, 46, 47, 48, 49, 50, 51, 52, 53, 54, 55, 56, 57, 58, 59] (by decide +kernel) (by decide +kernel)
set_option maxRecDepth 20000 in
theorem gX2_fed_X2_at : GoodIn wsX2_fed (wsV RX2 101 RX2 yX2_at wsX2_at) := goodIn_app (goodIn_of _ (by decide +kernel)) ggX2_fed_X2_at
set_option maxRecDepth 20000 in
theorem ggX2_fed_X2_make : GoodIn wsX2_fed wsX2_make := goodIn_r _ [23, 24, 25, 26, 27, 28, 29, 30, 31, 19, 32, 33, 34, 35, 36, 37, 38, 39, 40, 41, 42, 43, 44, 45, 46, 47, 48, 49, 50, 51, 52, 53, 54, 55, 56, 57, 58, 59] (by decide +kernel) (by decide +kernel)
set_option maxRecDepth 20000 in
theorem gX2_fed_X2_make : GoodIn wsX2_fed (wsV RX2 105 RX2 yX2_make wsX2_make) := goodIn_app (goodIn_of _ (by decide +kernel)) ggX2_fed_X2_make
theorem dX2_fed_0 : decode cX2_fed 0 = .ok (.aload_n 0, 1) := by decide +kernel
theorem dX2_fed_1 : decode cX2_fed 1 = .ok (.iload_n 1, 1) := by decide +kernel
theorem dX2_fed_2 : decode cX2_fed 2 = .ok (.iload_n 2, 1) := by decide +kernel
theorem dX2_fed_3 : decode cX2_fed 3 = .ok (.iload_n 3, 1) := by decide +kernel
theorem dX2_fed_4 : decode cX2_fed 4 = .ok (.invokestatic 109, 3) := by decide +kernel
theorem dX2_fed_7 : decode cX2_fed 7 = .ok (.bipush (-9), 2) := by decide +kernel
theorem dX2_fed_9 : decode cX2_fed 9 = .ok (.invokevirtual 112, 3) := by decide +kernel
theorem dX2_fed_12 : decode cX2_fed 12 = .ok (.istore 4, 2) := by decide +kernel
theorem dX2_fed_14 : decode cX2_fed 14 = .ok (.iload 4, 2) := by decide +kernel
theorem dX2_fed_16 : decode cX2_fed 16 = .ok (.ifCond .ge 8, 3) := by decide +kernel
theorem dX2_fed_19 : decode cX2_fed 19 = .ok (.iload 4, 2) := by decide +kernel
theorem dX2_fed_21 : decode cX2_fed 21 = .ok (.goto 22, 3) := by decide +kernel
theorem dX2_fed_24 : decode cX2_fed 24 = .ok (.aload_n 0, 1) := by decide +kernel
theorem dX2_fed_25 : decode cX2_fed 25 = .ok (.iload_n 1, 1) := by decide +kernel
theorem dX2_fed_26 : decode cX2_fed 26 = .ok (.bipush 7, 2) := by decide +kernel
theorem dX2_fed_28 : decode cX2_fed 28 = .ok (.aload_n 0, 1) := by decide +kernel
theorem dX2_fed_29 : decode cX2_fed 29 = .ok (.iload_n 2, 1) := by decide +kernel
theorem dX2_fed_30 : decode cX2_fed 30 = .ok (.invokevirtual 101, 3) := by decide +kernel
theorem dX2_fed_33 : decode cX2_fed 33 = .ok (.aload_n 0, 1) := by decide +kernel
theorem dX2_fed_34 : decode cX2_fed 34 = .ok (.iload_n 3, 1) := by decide +kernel
theorem dX2_fed_35 : decode cX2_fed 35 = .ok (.invokevirtual 101, 3) := by decide +kernel
theorem dX2_fed_38 : decode cX2_fed 38 = .ok (.iconst 0, 1) := by decide +kernel
theorem dX2_fed_39 : decode cX2_fed 39 = .ok (.lconst 0, 1) := by decide +kernel
theorem dX2_fed_40 : decode cX2_fed 40 = .ok (.invokevirtual 105, 3) := by decide +kernel
theorem dX2_fed_43 : decode cX2_fed 43 = .ok (.ireturn, 1) := by decide +kernel
set_option maxRecDepth 20000 in
theorem ggX2_guarded_X2_asWanted : GoodIn wsX2_guarded wsX2_asWanted := goodIn_r _ [4, 5, 6, 3, 7, 8, 9, 10] (by decide +kernel) (by decide +kernel)
set_option maxRecDepth 20000 in
theorem gX2_guarded_X2_asWanted : GoodIn wsX2_guarded (va_wsS RX2 109 yX2_asWanted wsX2_asWanted) := goodIn_app (goodIn_of _ (by decide +kernel)) ggX2_guarded_X2_asWanted
set_option maxRecDepth 20000 in
theorem ggX2_guarded_X2_against : GoodIn wsX2_guarded wsX2_against := goodIn_r _ [14, 5, 6, 3, 7, 8, 9, 10, 15, 16, 17, 18, 19, 32, 33, 34, 35, 36, 37, 38, 39, 40, 41, 42, 43, 44, 45, 46, 47, 48, 49, 50, 51, 52, 53, 54, 55, 56, 57, 58, 59] (by decide +kernel) (by decide +kernel)
set_option maxRecDepth 20000 in
theorem gX2_guarded_X2_against : GoodIn wsX2_guarded (wsV RX2 112 RX2 yX2_against wsX2_against) := goodIn_app (goodIn_of _ (by decide +kernel)) ggX2_guarded_X2_against
set_option maxRecDepth 20000 in
theorem ggX2_guarded_X2_at : GoodIn wsX2_guarded wsX2_at := goodIn_r _ [18, 19, 32, 33, 34, 35, 36, 37, 38, 39, 40, 41, 42, 43, 44, 45, 46, 47, 48, 49, 50, 51, 52, 53, 54, 55, 56, 57, 58, 59] (by decide +kernel) (by decide +kernel)
set_option maxRecDepth 20000 in
theorem gX2_guarded_X2_at : GoodIn wsX2_guarded (wsV RX2 101 RX2 yX2_at wsX2_at) := goodIn_app (goodIn_of _ (by decide +kernel)) ggX2_guarded_X2_at
set_option maxRecDepth 20000 in
theorem ggX2_guarded_X2_make : GoodIn wsX2_guarded wsX2_make := goodIn_r _ [23, 24, 25, 26, 27, 28, 29, 30, 31, 19, 32, 33, 34, 35, 36, 37, 38, 39, 40, 41, 42, 43, 44, 45, 46, 47, 48, 49, 50, 51, 52, 53, 54, 55, 56, 57, 58, 59] (by decide +kernel) (by decide +kernel)
set_option maxRecDepth 20000 in
theorem gX2_guarded_X2_make : GoodIn wsX2_guarded (wsV RX2 105 RX2 yX2_make wsX2_make) := goodIn_app (goodIn_of _ (by decide +kernel)) ggX2_guarded_X2_make
theorem dX2_guarded_0 : decode cX2_guarded 0 = .ok (.aload_n 0, 1) := by decide +kernel
theorem dX2_guarded_1 : decode cX2_guarded 1 = .ok (.iload_n 1, 1) := by decide +kernel
theorem dX2_guarded_2 : decode cX2_guarded 2 = .ok (.iload_n 2, 1) := by decide +kernel
theorem dX2_guarded_3 : decode cX2_guarded 3 = .ok (.iload_n 3, 1) := by decide +kernel
theorem dX2_guarded_4 : decode cX2_guarded 4 = .ok (.invokestatic 109, 3) := by decide +kernel
theorem dX2_guarded_7 : decode cX2_guarded 7 = .ok (.bipush (-9), 2) := by decide +kernel
theorem dX2_guarded_9 : decode cX2_guarded 9 = .ok (.invokevirtual 112, 3) := by decide +kernel
theorem dX2_guarded_12 : decode cX2_guarded 12 = .ok (.istore 4, 2) := by decide +kernel
theorem dX2_guarded_14 : decode cX2_guarded 14 = .ok (.iload 4, 2) := by decide +kernel
theorem dX2_guarded_16 : decode cX2_guarded 16 = .ok (.ifCond .ge 8, 3) := by decide +kernel
theorem dX2_guarded_19 : decode cX2_guarded 19 = .ok (.iload 4, 2) := by decide +kernel
theorem dX2_guarded_21 : decode cX2_guarded 21 = .ok (.goto 22, 3) := by decide +kernel
theorem dX2_guarded_24 : decode cX2_guarded 24 = .ok (.aload_n 0, 1) := by decide +kernel
theorem dX2_guarded_25 : decode cX2_guarded 25 = .ok (.iload_n 1, 1) := by decide +kernel
theorem dX2_guarded_26 : decode cX2_guarded 26 = .ok (.bipush 8, 2) := by decide +kernel
theorem dX2_guarded_28 : decode cX2_guarded 28 = .ok (.aload_n 0, 1) := by decide +kernel
theorem dX2_guarded_29 : decode cX2_guarded 29 = .ok (.iload_n 2, 1) := by decide +kernel
theorem dX2_guarded_30 : decode cX2_guarded 30 = .ok (.invokevirtual 101, 3) := by decide +kernel
theorem dX2_guarded_33 : decode cX2_guarded 33 = .ok (.aload_n 0, 1) := by decide +kernel
theorem dX2_guarded_34 : decode cX2_guarded 34 = .ok (.iload_n 3, 1) := by decide +kernel
theorem dX2_guarded_35 : decode cX2_guarded 35 = .ok (.invokevirtual 101, 3) := by decide +kernel
theorem dX2_guarded_38 : decode cX2_guarded 38 = .ok (.iconst 0, 1) := by decide +kernel
theorem dX2_guarded_39 : decode cX2_guarded 39 = .ok (.lconst 0, 1) := by decide +kernel
theorem dX2_guarded_40 : decode cX2_guarded 40 = .ok (.invokevirtual 105, 3) := by decide +kernel
theorem dX2_guarded_43 : decode cX2_guarded 43 = .ok (.ireturn, 1) := by decide +kernel
set_option maxRecDepth 20000 in
theorem ggX2_called_X2_isPlace : GoodIn wsX2_called wsX2_isPlace := goodIn_r _ [4, 5, 6, 3, 7] (by decide +kernel) (by decide +kernel)
set_option maxRecDepth 20000 in
theorem gX2_called_X2_isPlace : GoodIn wsX2_called (va_wsS RX2 97 yX2_isPlace wsX2_isPlace) := goodIn_app (goodIn_of _ (by decide +kernel)) ggX2_called_X2_isPlace
set_option maxRecDepth 20000 in
theorem ggX2_called_X2_make : GoodIn wsX2_called wsX2_make := goodIn_r _ [11, 12, 13, 14, 15, 16, 17, 18, 19, 20, 21, 22, 23, 24, 25, 26, 27, 28, 29, 30, 31, 32, 33, 34, 35, 36, 37, 38, 39, 40, 41, 42, 43, 44, 45, 46, 47, 48] (by decide +kernel) (by decide +kernel)
set_option maxRecDepth 20000 in
theorem gX2_called_X2_make : GoodIn wsX2_called (wsV RX2 105 RX2 yX2_make wsX2_make) := goodIn_app (goodIn_of _ (by decide +kernel)) ggX2_called_X2_make
theorem dX2_called_0 : decode cX2_called 0 = .ok (.iload_n 1, 1) := by decide +kernel
theorem dX2_called_1 : decode cX2_called 1 = .ok (.invokestatic 97, 3) := by decide +kernel
theorem dX2_called_4 : decode cX2_called 4 = .ok (.ifCond .eq 24, 3) := by decide +kernel
theorem dX2_called_7 : decode cX2_called 7 = .ok (.iload_n 2, 1) := by decide +kernel
theorem dX2_called_8 : decode cX2_called 8 = .ok (.invokestatic 97, 3) := by decide +kernel
theorem dX2_called_11 : decode cX2_called 11 = .ok (.ifCond .eq 17, 3) := by decide +kernel
theorem dX2_called_14 : decode cX2_called 14 = .ok (.aload_n 0, 1) := by decide +kernel
theorem dX2_called_15 : decode cX2_called 15 = .ok (.iload_n 1, 1) := by decide +kernel
theorem dX2_called_16 : decode cX2_called 16 = .ok (.bipush 9, 2) := by decide +kernel
theorem dX2_called_18 : decode cX2_called 18 = .ok (.iload_n 2, 1) := by decide +kernel
theorem dX2_called_19 : decode cX2_called 19 = .ok (.iconst 0, 1) := by decide +kernel
theorem dX2_called_20 : decode cX2_called 20 = .ok (.iconst 0, 1) := by decide +kernel
theorem dX2_called_21 : decode cX2_called 21 = .ok (.lconst 0, 1) := by decide +kernel
theorem dX2_called_22 : decode cX2_called 22 = .ok (.invokevirtual 105, 3) := by decide +kernel
theorem dX2_called_25 : decode cX2_called 25 = .ok (.goto 4, 3) := by decide +kernel
theorem dX2_called_28 : decode cX2_called 28 = .ok (.iconst (-1), 1) := by decide +kernel
theorem dX2_called_29 : decode cX2_called 29 = .ok (.ireturn, 1) := by decide +kernel
set_option maxRecDepth 20000 in
theorem ggX2_barred_X2_against : GoodIn wsX2_barred wsX2_against := goodIn_r _ [5, 6, 7, 4, 8, 9, 10, 11, 12, 13, 14, 15, 16, 29, 30, 31, 32, 33, 34, 35, 36, 37, 38, 39, 40, 41, 42, 43, 44, 45, 46, 47, 48, 49, 50, 51, 52, 53, 54, 55, 56] (by decide +kernel) (by decide +kernel)
set_option maxRecDepth 20000 in
theorem gX2_barred_X2_against : GoodIn wsX2_barred (wsV RX2 112 RX2 yX2_against wsX2_against) := goodIn_app (goodIn_of _ (by decide +kernel)) ggX2_barred_X2_against
set_option maxRecDepth 20000 in
theorem ggX2_barred_X2_at : GoodIn wsX2_barred wsX2_at := goodIn_r _ [15, 16, 29, 30, 31, 32, 33, 34, 35, 36, 37, 38, 39, 40, 41, 42, 43, 44, 45, 46, 47, 48, 49, 50, 51, 52, 53, 54, 55, 56] (by decide +kernel) (by decide +kernel)
set_option maxRecDepth 20000 in
theorem gX2_barred_X2_at : GoodIn wsX2_barred (wsV RX2 101 RX2 yX2_at wsX2_at) := goodIn_app (goodIn_of _ (by decide +kernel)) ggX2_barred_X2_at
set_option maxRecDepth 20000 in
theorem ggX2_barred_X2_make : GoodIn wsX2_barred wsX2_make := goodIn_r _ [20, 21, 22, 23, 24, 25, 26, 27, 28, 16, 29, 30, 31, 32, 33, 34, 35, 36, 37, 38, 39, 40, 41, 42, 43, 44, 45, 46, 47, 48, 49, 50, 51, 52, 53, 54, 55, 56] (by decide +kernel) (by decide +kernel)
set_option maxRecDepth 20000 in
theorem gX2_barred_X2_make : GoodIn wsX2_barred (wsV RX2 105 RX2 yX2_make wsX2_make) := goodIn_app (goodIn_of _ (by decide +kernel)) ggX2_barred_X2_make
theorem dX2_barred_0 : decode cX2_barred 0 = .ok (.aload_n 0, 1) := by decide +kernel
theorem dX2_barred_1 : decode cX2_barred 1 = .ok (.iload_n 1, 1) := by decide +kernel
theorem dX2_barred_2 : decode cX2_barred 2 = .ok (.iload_n 2, 1) := by decide +kernel
theorem dX2_barred_3 : decode cX2_barred 3 = .ok (.bipush (-9), 2) := by decide +kernel
theorem dX2_barred_5 : decode cX2_barred 5 = .ok (.bipush (-9), 2) := by decide +kernel
theorem dX2_barred_7 : decode cX2_barred 7 = .ok (.invokevirtual 112, 3) := by decide +kernel
theorem dX2_barred_10 : decode cX2_barred 10 = .ok (.istore 4, 2) := by decide +kernel
theorem dX2_barred_12 : decode cX2_barred 12 = .ok (.iload 4, 2) := by decide +kernel
theorem dX2_barred_14 : decode cX2_barred 14 = .ok (.ifCond .ge 8, 3) := by decide +kernel
theorem dX2_barred_17 : decode cX2_barred 17 = .ok (.iload 4, 2) := by decide +kernel
theorem dX2_barred_19 : decode cX2_barred 19 = .ok (.goto 19, 3) := by decide +kernel
theorem dX2_barred_22 : decode cX2_barred 22 = .ok (.aload_n 0, 1) := by decide +kernel
theorem dX2_barred_23 : decode cX2_barred 23 = .ok (.iload_n 1, 1) := by decide +kernel
theorem dX2_barred_24 : decode cX2_barred 24 = .ok (.bipush 10, 2) := by decide +kernel
theorem dX2_barred_26 : decode cX2_barred 26 = .ok (.aload_n 0, 1) := by decide +kernel
theorem dX2_barred_27 : decode cX2_barred 27 = .ok (.iload_n 2, 1) := by decide +kernel
theorem dX2_barred_28 : decode cX2_barred 28 = .ok (.invokevirtual 101, 3) := by decide +kernel
theorem dX2_barred_31 : decode cX2_barred 31 = .ok (.iconst 0, 1) := by decide +kernel
theorem dX2_barred_32 : decode cX2_barred 32 = .ok (.iconst 0, 1) := by decide +kernel
theorem dX2_barred_33 : decode cX2_barred 33 = .ok (.iload_n 3, 1) := by decide +kernel
theorem dX2_barred_34 : decode cX2_barred 34 = .ok (.i2l, 1) := by decide +kernel
theorem dX2_barred_35 : decode cX2_barred 35 = .ok (.invokevirtual 105, 3) := by decide +kernel
theorem dX2_barred_38 : decode cX2_barred 38 = .ok (.ireturn, 1) := by decide +kernel
set_option maxRecDepth 20000 in
theorem ggX2_counted_X2_against : GoodIn wsX2_counted wsX2_against := goodIn_r _ [5, 6, 7, 4, 8, 9, 10, 11, 12, 13, 14, 15, 16, 29, 30, 31, 32, 33, 34, 35, 36, 37, 38, 39, 40, 41, 42, 43, 44, 45, 46, 47, 48, 49, 50, 51, 52, 53, 54, 55, 56] (by decide +kernel) (by decide +kernel)
set_option maxRecDepth 20000 in
theorem gX2_counted_X2_against : GoodIn wsX2_counted (wsV RX2 112 RX2 yX2_against wsX2_against) := goodIn_app (goodIn_of _ (by decide +kernel)) ggX2_counted_X2_against
set_option maxRecDepth 20000 in
theorem ggX2_counted_X2_at : GoodIn wsX2_counted wsX2_at := goodIn_r _ [15, 16, 29, 30, 31, 32, 33, 34, 35, 36, 37, 38, 39, 40, 41, 42, 43, 44, 45, 46, 47, 48, 49, 50, 51, 52, 53, 54, 55, 56] (by decide +kernel) (by decide +kernel)
set_option maxRecDepth 20000 in
theorem gX2_counted_X2_at : GoodIn wsX2_counted (wsV RX2 101 RX2 yX2_at wsX2_at) := goodIn_app (goodIn_of _ (by decide +kernel)) ggX2_counted_X2_at
set_option maxRecDepth 20000 in
theorem ggX2_counted_X2_make : GoodIn wsX2_counted wsX2_make := goodIn_r _ [20, 21, 22, 23, 24, 25, 26, 27, 28, 16, 29, 30, 31, 32, 33, 34, 35, 36, 37, 38, 39, 40, 41, 42, 43, 44, 45, 46, 47, 48, 49, 50, 51, 52, 53, 54, 55, 56] (by decide +kernel) (by decide +kernel)
set_option maxRecDepth 20000 in
theorem gX2_counted_X2_make : GoodIn wsX2_counted (wsV RX2 105 RX2 yX2_make wsX2_make) := goodIn_app (goodIn_of _ (by decide +kernel)) ggX2_counted_X2_make
theorem dX2_counted_0 : decode cX2_counted 0 = .ok (.aload_n 0, 1) := by decide +kernel
theorem dX2_counted_1 : decode cX2_counted 1 = .ok (.iload_n 1, 1) := by decide +kernel
theorem dX2_counted_2 : decode cX2_counted 2 = .ok (.iload_n 2, 1) := by decide +kernel
theorem dX2_counted_3 : decode cX2_counted 3 = .ok (.bipush (-9), 2) := by decide +kernel
theorem dX2_counted_5 : decode cX2_counted 5 = .ok (.bipush (-9), 2) := by decide +kernel
theorem dX2_counted_7 : decode cX2_counted 7 = .ok (.invokevirtual 112, 3) := by decide +kernel
theorem dX2_counted_10 : decode cX2_counted 10 = .ok (.istore_n 3, 1) := by decide +kernel
theorem dX2_counted_11 : decode cX2_counted 11 = .ok (.iload_n 3, 1) := by decide +kernel
theorem dX2_counted_12 : decode cX2_counted 12 = .ok (.ifCond .ge 7, 3) := by decide +kernel
theorem dX2_counted_15 : decode cX2_counted 15 = .ok (.iload_n 3, 1) := by decide +kernel
theorem dX2_counted_16 : decode cX2_counted 16 = .ok (.goto 18, 3) := by decide +kernel
theorem dX2_counted_19 : decode cX2_counted 19 = .ok (.aload_n 0, 1) := by decide +kernel
theorem dX2_counted_20 : decode cX2_counted 20 = .ok (.iload_n 1, 1) := by decide +kernel
theorem dX2_counted_21 : decode cX2_counted 21 = .ok (.bipush 11, 2) := by decide +kernel
theorem dX2_counted_23 : decode cX2_counted 23 = .ok (.aload_n 0, 1) := by decide +kernel
theorem dX2_counted_24 : decode cX2_counted 24 = .ok (.iload_n 2, 1) := by decide +kernel
theorem dX2_counted_25 : decode cX2_counted 25 = .ok (.invokevirtual 101, 3) := by decide +kernel
theorem dX2_counted_28 : decode cX2_counted 28 = .ok (.iconst 0, 1) := by decide +kernel
theorem dX2_counted_29 : decode cX2_counted 29 = .ok (.iconst 0, 1) := by decide +kernel
theorem dX2_counted_30 : decode cX2_counted 30 = .ok (.lconst 0, 1) := by decide +kernel
theorem dX2_counted_31 : decode cX2_counted 31 = .ok (.invokevirtual 105, 3) := by decide +kernel
theorem dX2_counted_34 : decode cX2_counted 34 = .ok (.ireturn, 1) := by decide +kernel
set_option maxRecDepth 20000 in
theorem ggX2_kept_X2_against : GoodIn wsX2_kept wsX2_against := goodIn_r _ [5, 6, 7, 4, 8, 9, 10, 11, 12, 13, 14, 15, 16, 29, 30, 31, 32, 33, 34, 35, 36, 37, 38, 39, 40, 41, 42, 43, 44, 45, 46, 47, 48, 49, 50, 51, 52, 53, 54, 55, 56] (by decide +kernel) (by decide +kernel)
set_option maxRecDepth 20000 in
theorem gX2_kept_X2_against : GoodIn wsX2_kept (wsV RX2 112 RX2 yX2_against wsX2_against) := goodIn_app (goodIn_of _ (by decide +kernel)) ggX2_kept_X2_against
set_option maxRecDepth 20000 in
theorem ggX2_kept_X2_at : GoodIn wsX2_kept wsX2_at := goodIn_r _ [15, 16, 29, 30, 31, 32, 33, 34, 35, 36, 37, 38, 39, 40, 41, 42, 43, 44, 45, 46, 47, 48, 49, 50, 51, 52, 53, 54, 55, 56] (by decide +kernel) (by decide +kernel)
set_option maxRecDepth 20000 in
theorem gX2_kept_X2_at : GoodIn wsX2_kept (wsV RX2 101 RX2 yX2_at wsX2_at) := goodIn_app (goodIn_of _ (by decide +kernel)) ggX2_kept_X2_at
set_option maxRecDepth 20000 in
theorem ggX2_kept_X2_make : GoodIn wsX2_kept wsX2_make := goodIn_r _ [20, 21, 22, 23, 24, 25, 26, 27, 28, 16, 29, 30, 31, 32, 33, 34, 35, 36, 37, 38, 39, 40, 41, 42, 43, 44, 45, 46, 47, 48, 49, 50, 51, 52, 53, 54, 55, 56] (by decide +kernel) (by decide +kernel)
set_option maxRecDepth 20000 in
theorem gX2_kept_X2_make : GoodIn wsX2_kept (wsV RX2 105 RX2 yX2_make wsX2_make) := goodIn_app (goodIn_of _ (by decide +kernel)) ggX2_kept_X2_make
theorem dX2_kept_0 : decode cX2_kept 0 = .ok (.aload_n 0, 1) := by decide +kernel
theorem dX2_kept_1 : decode cX2_kept 1 = .ok (.iload_n 1, 1) := by decide +kernel
theorem dX2_kept_2 : decode cX2_kept 2 = .ok (.iload_n 2, 1) := by decide +kernel
theorem dX2_kept_3 : decode cX2_kept 3 = .ok (.bipush (-9), 2) := by decide +kernel
theorem dX2_kept_5 : decode cX2_kept 5 = .ok (.bipush (-9), 2) := by decide +kernel
theorem dX2_kept_7 : decode cX2_kept 7 = .ok (.invokevirtual 112, 3) := by decide +kernel
theorem dX2_kept_10 : decode cX2_kept 10 = .ok (.istore_n 3, 1) := by decide +kernel
theorem dX2_kept_11 : decode cX2_kept 11 = .ok (.iload_n 3, 1) := by decide +kernel
theorem dX2_kept_12 : decode cX2_kept 12 = .ok (.ifCond .ge 7, 3) := by decide +kernel
theorem dX2_kept_15 : decode cX2_kept 15 = .ok (.iload_n 3, 1) := by decide +kernel
theorem dX2_kept_16 : decode cX2_kept 16 = .ok (.goto 18, 3) := by decide +kernel
theorem dX2_kept_19 : decode cX2_kept 19 = .ok (.aload_n 0, 1) := by decide +kernel
theorem dX2_kept_20 : decode cX2_kept 20 = .ok (.iload_n 1, 1) := by decide +kernel
theorem dX2_kept_21 : decode cX2_kept 21 = .ok (.bipush 12, 2) := by decide +kernel
theorem dX2_kept_23 : decode cX2_kept 23 = .ok (.aload_n 0, 1) := by decide +kernel
theorem dX2_kept_24 : decode cX2_kept 24 = .ok (.iload_n 2, 1) := by decide +kernel
theorem dX2_kept_25 : decode cX2_kept 25 = .ok (.invokevirtual 101, 3) := by decide +kernel
theorem dX2_kept_28 : decode cX2_kept 28 = .ok (.iconst 0, 1) := by decide +kernel
theorem dX2_kept_29 : decode cX2_kept 29 = .ok (.iconst 0, 1) := by decide +kernel
theorem dX2_kept_30 : decode cX2_kept 30 = .ok (.lconst 0, 1) := by decide +kernel
theorem dX2_kept_31 : decode cX2_kept 31 = .ok (.invokevirtual 105, 3) := by decide +kernel
theorem dX2_kept_34 : decode cX2_kept 34 = .ok (.ireturn, 1) := by decide +kernel
set_option maxRecDepth 20000 in
theorem ggX2_put_X2_isPlace : GoodIn wsX2_put wsX2_isPlace := goodIn_r _ [5, 6, 7, 4, 8] (by decide +kernel) (by decide +kernel)
set_option maxRecDepth 20000 in
theorem gX2_put_X2_isPlace : GoodIn wsX2_put (va_wsS RX2 97 yX2_isPlace wsX2_isPlace) := goodIn_app (goodIn_of _ (by decide +kernel)) ggX2_put_X2_isPlace
theorem dX2_put_0 : decode cX2_put 0 = .ok (.iload_n 1, 1) := by decide +kernel
theorem dX2_put_1 : decode cX2_put 1 = .ok (.invokestatic 97, 3) := by decide +kernel
theorem dX2_put_4 : decode cX2_put 4 = .ok (.ifCond .eq 10, 3) := by decide +kernel
theorem dX2_put_7 : decode cX2_put 7 = .ok (.iload_n 2, 1) := by decide +kernel
theorem dX2_put_8 : decode cX2_put 8 = .ok (.invokestatic 97, 3) := by decide +kernel
theorem dX2_put_11 : decode cX2_put 11 = .ok (.ifCond .ne 5, 3) := by decide +kernel
theorem dX2_put_14 : decode cX2_put 14 = .ok (.iconst (-1), 1) := by decide +kernel
theorem dX2_put_15 : decode cX2_put 15 = .ok (.ireturn, 1) := by decide +kernel
theorem dX2_put_16 : decode cX2_put 16 = .ok (.aload_n 0, 1) := by decide +kernel
theorem dX2_put_17 : decode cX2_put 17 = .ok (.getfield 55, 3) := by decide +kernel
theorem dX2_put_20 : decode cX2_put 20 = .ok (.iload_n 1, 1) := by decide +kernel
theorem dX2_put_21 : decode cX2_put 21 = .ok (.iaload, 1) := by decide +kernel
theorem dX2_put_22 : decode cX2_put 22 = .ok (.ifCond .ne 6, 3) := by decide +kernel
theorem dX2_put_25 : decode cX2_put 25 = .ok (.bipush (-2), 2) := by decide +kernel
theorem dX2_put_27 : decode cX2_put 27 = .ok (.ireturn, 1) := by decide +kernel
theorem dX2_put_28 : decode cX2_put 28 = .ok (.aload_n 0, 1) := by decide +kernel
theorem dX2_put_29 : decode cX2_put 29 = .ok (.getfield 55, 3) := by decide +kernel
theorem dX2_put_32 : decode cX2_put 32 = .ok (.iload_n 2, 1) := by decide +kernel
theorem dX2_put_33 : decode cX2_put 33 = .ok (.aload_n 0, 1) := by decide +kernel
theorem dX2_put_34 : decode cX2_put 34 = .ok (.getfield 55, 3) := by decide +kernel
theorem dX2_put_37 : decode cX2_put 37 = .ok (.iload_n 1, 1) := by decide +kernel
theorem dX2_put_38 : decode cX2_put 38 = .ok (.iaload, 1) := by decide +kernel
theorem dX2_put_39 : decode cX2_put 39 = .ok (.iastore, 1) := by decide +kernel
theorem dX2_put_40 : decode cX2_put 40 = .ok (.iconst 1, 1) := by decide +kernel
theorem dX2_put_41 : decode cX2_put 41 = .ok (.ireturn, 1) := by decide +kernel
set_option maxRecDepth 20000 in
theorem ggX2_take_X2_isPlace : GoodIn wsX2_take wsX2_isPlace := goodIn_r _ [5, 6, 7, 4, 8] (by decide +kernel) (by decide +kernel)
set_option maxRecDepth 20000 in
theorem gX2_take_X2_isPlace : GoodIn wsX2_take (va_wsS RX2 97 yX2_isPlace wsX2_isPlace) := goodIn_app (goodIn_of _ (by decide +kernel)) ggX2_take_X2_isPlace
theorem dX2_take_0 : decode cX2_take 0 = .ok (.iload_n 1, 1) := by decide +kernel
theorem dX2_take_1 : decode cX2_take 1 = .ok (.invokestatic 97, 3) := by decide +kernel
theorem dX2_take_4 : decode cX2_take 4 = .ok (.ifCond .ne 5, 3) := by decide +kernel
theorem dX2_take_7 : decode cX2_take 7 = .ok (.iconst (-1), 1) := by decide +kernel
theorem dX2_take_8 : decode cX2_take 8 = .ok (.ireturn, 1) := by decide +kernel
theorem dX2_take_9 : decode cX2_take 9 = .ok (.aload_n 0, 1) := by decide +kernel
theorem dX2_take_10 : decode cX2_take 10 = .ok (.getfield 55, 3) := by decide +kernel
theorem dX2_take_13 : decode cX2_take 13 = .ok (.iload_n 1, 1) := by decide +kernel
theorem dX2_take_14 : decode cX2_take 14 = .ok (.iaload, 1) := by decide +kernel
theorem dX2_take_15 : decode cX2_take 15 = .ok (.ifCond .ne 6, 3) := by decide +kernel
theorem dX2_take_18 : decode cX2_take 18 = .ok (.bipush (-2), 2) := by decide +kernel
theorem dX2_take_20 : decode cX2_take 20 = .ok (.ireturn, 1) := by decide +kernel
theorem dX2_take_21 : decode cX2_take 21 = .ok (.aload_n 0, 1) := by decide +kernel
theorem dX2_take_22 : decode cX2_take 22 = .ok (.getfield 55, 3) := by decide +kernel
theorem dX2_take_25 : decode cX2_take 25 = .ok (.iload_n 1, 1) := by decide +kernel
theorem dX2_take_26 : decode cX2_take 26 = .ok (.iconst 0, 1) := by decide +kernel
theorem dX2_take_27 : decode cX2_take 27 = .ok (.iastore, 1) := by decide +kernel
theorem dX2_take_28 : decode cX2_take 28 = .ok (.iconst 1, 1) := by decide +kernel
theorem dX2_take_29 : decode cX2_take 29 = .ok (.ireturn, 1) := by decide +kernel
theorem dX2_begin_0 : decode cX2_begin 0 = .ok (.aload_n 0, 1) := by decide +kernel
theorem dX2_begin_1 : decode cX2_begin 1 = .ok (.getfield 91, 3) := by decide +kernel
theorem dX2_begin_4 : decode cX2_begin 4 = .ok (.bipush 80, 2) := by decide +kernel
theorem dX2_begin_6 : decode cX2_begin 6 = .ok (.if_icmp .ne 10, 3) := by decide +kernel
theorem dX2_begin_9 : decode cX2_begin 9 = .ok (.aload_n 0, 1) := by decide +kernel
theorem dX2_begin_10 : decode cX2_begin 10 = .ok (.bipush (-6), 2) := by decide +kernel
theorem dX2_begin_12 : decode cX2_begin 12 = .ok (.putfield 116, 3) := by decide +kernel
theorem dX2_begin_15 : decode cX2_begin 15 = .ok (.return_, 1) := by decide +kernel
theorem dX2_begin_16 : decode cX2_begin 16 = .ok (.aload_n 0, 1) := by decide +kernel
theorem dX2_begin_17 : decode cX2_begin 17 = .ok (.dup, 1) := by decide +kernel
theorem dX2_begin_18 : decode cX2_begin 18 = .ok (.getfield 91, 3) := by decide +kernel
theorem dX2_begin_21 : decode cX2_begin 21 = .ok (.iconst 1, 1) := by decide +kernel
theorem dX2_begin_22 : decode cX2_begin 22 = .ok (.iadd, 1) := by decide +kernel
theorem dX2_begin_23 : decode cX2_begin 23 = .ok (.putfield 91, 3) := by decide +kernel
theorem dX2_begin_26 : decode cX2_begin 26 = .ok (.aload_n 0, 1) := by decide +kernel
theorem dX2_begin_27 : decode cX2_begin 27 = .ok (.getfield 119, 3) := by decide +kernel
theorem dX2_begin_30 : decode cX2_begin 30 = .ok (.bipush 24, 2) := by decide +kernel
theorem dX2_begin_32 : decode cX2_begin 32 = .ok (.if_icmp .ne 12, 3) := by decide +kernel
theorem dX2_begin_35 : decode cX2_begin 35 = .ok (.aload_n 0, 1) := by decide +kernel
theorem dX2_begin_36 : decode cX2_begin 36 = .ok (.bipush (-7), 2) := by decide +kernel
theorem dX2_begin_38 : decode cX2_begin 38 = .ok (.putfield 116, 3) := by decide +kernel
theorem dX2_begin_41 : decode cX2_begin 41 = .ok (.goto 76, 3) := by decide +kernel
theorem dX2_begin_44 : decode cX2_begin 44 = .ok (.iload_n 1, 1) := by decide +kernel
theorem dX2_begin_45 : decode cX2_begin 45 = .ok (.ifCond .ge 12, 3) := by decide +kernel
theorem dX2_begin_48 : decode cX2_begin 48 = .ok (.aload_n 0, 1) := by decide +kernel
theorem dX2_begin_49 : decode cX2_begin 49 = .ok (.bipush (-2), 2) := by decide +kernel
theorem dX2_begin_51 : decode cX2_begin 51 = .ok (.putfield 116, 3) := by decide +kernel
theorem dX2_begin_54 : decode cX2_begin 54 = .ok (.goto 63, 3) := by decide +kernel
theorem dX2_begin_57 : decode cX2_begin 57 = .ok (.aload_n 0, 1) := by decide +kernel
theorem dX2_begin_58 : decode cX2_begin 58 = .ok (.getfield 58, 3) := by decide +kernel
theorem dX2_begin_61 : decode cX2_begin 61 = .ok (.aload_n 0, 1) := by decide +kernel
theorem dX2_begin_62 : decode cX2_begin 62 = .ok (.getfield 119, 3) := by decide +kernel
theorem dX2_begin_65 : decode cX2_begin 65 = .ok (.iload_n 1, 1) := by decide +kernel
theorem dX2_begin_66 : decode cX2_begin 66 = .ok (.iastore, 1) := by decide +kernel
theorem dX2_begin_67 : decode cX2_begin 67 = .ok (.aload_n 0, 1) := by decide +kernel
theorem dX2_begin_68 : decode cX2_begin 68 = .ok (.getfield 61, 3) := by decide +kernel
theorem dX2_begin_71 : decode cX2_begin 71 = .ok (.aload_n 0, 1) := by decide +kernel
theorem dX2_begin_72 : decode cX2_begin 72 = .ok (.getfield 119, 3) := by decide +kernel
theorem dX2_begin_75 : decode cX2_begin 75 = .ok (.iload_n 2, 1) := by decide +kernel
theorem dX2_begin_76 : decode cX2_begin 76 = .ok (.iastore, 1) := by decide +kernel
theorem dX2_begin_77 : decode cX2_begin 77 = .ok (.aload_n 0, 1) := by decide +kernel
theorem dX2_begin_78 : decode cX2_begin 78 = .ok (.getfield 64, 3) := by decide +kernel
theorem dX2_begin_81 : decode cX2_begin 81 = .ok (.aload_n 0, 1) := by decide +kernel
theorem dX2_begin_82 : decode cX2_begin 82 = .ok (.getfield 119, 3) := by decide +kernel
theorem dX2_begin_85 : decode cX2_begin 85 = .ok (.iload_n 3, 1) := by decide +kernel
theorem dX2_begin_86 : decode cX2_begin 86 = .ok (.iastore, 1) := by decide +kernel
theorem dX2_begin_87 : decode cX2_begin 87 = .ok (.aload_n 0, 1) := by decide +kernel
theorem dX2_begin_88 : decode cX2_begin 88 = .ok (.getfield 67, 3) := by decide +kernel
theorem dX2_begin_91 : decode cX2_begin 91 = .ok (.aload_n 0, 1) := by decide +kernel
theorem dX2_begin_92 : decode cX2_begin 92 = .ok (.getfield 119, 3) := by decide +kernel
theorem dX2_begin_95 : decode cX2_begin 95 = .ok (.iconst 0, 1) := by decide +kernel
theorem dX2_begin_96 : decode cX2_begin 96 = .ok (.iastore, 1) := by decide +kernel
theorem dX2_begin_97 : decode cX2_begin 97 = .ok (.aload_n 0, 1) := by decide +kernel
theorem dX2_begin_98 : decode cX2_begin 98 = .ok (.getfield 70, 3) := by decide +kernel
theorem dX2_begin_101 : decode cX2_begin 101 = .ok (.aload_n 0, 1) := by decide +kernel
theorem dX2_begin_102 : decode cX2_begin 102 = .ok (.getfield 119, 3) := by decide +kernel
theorem dX2_begin_105 : decode cX2_begin 105 = .ok (.lconst 0, 1) := by decide +kernel
theorem dX2_begin_106 : decode cX2_begin 106 = .ok (.lastore, 1) := by decide +kernel
theorem dX2_begin_107 : decode cX2_begin 107 = .ok (.aload_n 0, 1) := by decide +kernel
theorem dX2_begin_108 : decode cX2_begin 108 = .ok (.dup, 1) := by decide +kernel
theorem dX2_begin_109 : decode cX2_begin 109 = .ok (.getfield 119, 3) := by decide +kernel
theorem dX2_begin_112 : decode cX2_begin 112 = .ok (.iconst 1, 1) := by decide +kernel
theorem dX2_begin_113 : decode cX2_begin 113 = .ok (.iadd, 1) := by decide +kernel
theorem dX2_begin_114 : decode cX2_begin 114 = .ok (.putfield 119, 3) := by decide +kernel
theorem dX2_begin_117 : decode cX2_begin 117 = .ok (.return_, 1) := by decide +kernel
theorem dX2_gives_0 : decode cX2_gives 0 = .ok (.aload_n 0, 1) := by decide +kernel
theorem dX2_gives_1 : decode cX2_gives 1 = .ok (.lload_n 1, 1) := by decide +kernel
theorem dX2_gives_2 : decode cX2_gives 2 = .ok (.putfield 122, 3) := by decide +kernel
theorem dX2_gives_5 : decode cX2_gives 5 = .ok (.aload_n 0, 1) := by decide +kernel
theorem dX2_gives_6 : decode cX2_gives 6 = .ok (.dup, 1) := by decide +kernel
theorem dX2_gives_7 : decode cX2_gives 7 = .ok (.getfield 119, 3) := by decide +kernel
theorem dX2_gives_10 : decode cX2_gives 10 = .ok (.iconst 1, 1) := by decide +kernel
theorem dX2_gives_11 : decode cX2_gives 11 = .ok (.isub, 1) := by decide +kernel
theorem dX2_gives_12 : decode cX2_gives 12 = .ok (.putfield 119, 3) := by decide +kernel
theorem dX2_gives_15 : decode cX2_gives 15 = .ok (.return_, 1) := by decide +kernel
theorem dX2_fails_0 : decode cX2_fails 0 = .ok (.aload_n 0, 1) := by decide +kernel
theorem dX2_fails_1 : decode cX2_fails 1 = .ok (.iload_n 1, 1) := by decide +kernel
theorem dX2_fails_2 : decode cX2_fails 2 = .ok (.putfield 116, 3) := by decide +kernel
theorem dX2_fails_5 : decode cX2_fails 5 = .ok (.aload_n 0, 1) := by decide +kernel
theorem dX2_fails_6 : decode cX2_fails 6 = .ok (.dup, 1) := by decide +kernel
theorem dX2_fails_7 : decode cX2_fails 7 = .ok (.getfield 119, 3) := by decide +kernel
theorem dX2_fails_10 : decode cX2_fails 10 = .ok (.iconst 1, 1) := by decide +kernel
theorem dX2_fails_11 : decode cX2_fails 11 = .ok (.isub, 1) := by decide +kernel
theorem dX2_fails_12 : decode cX2_fails 12 = .ok (.putfield 119, 3) := by decide +kernel
theorem dX2_fails_15 : decode cX2_fails 15 = .ok (.return_, 1) := by decide +kernel
set_option maxRecDepth 20000 in
theorem ggX2_asks_X2_begin : GoodIn wsX2_asks wsX2_begin := goodIn_r _ [7, 8, 9, 2, 10, 11, 12, 1, 13, 14, 15, 16, 17, 18, 19, 20, 21, 22, 23, 24, 25, 26, 27, 28, 29, 30, 31, 32, 33, 34, 35, 36, 37, 38, 39, 40, 41] (by decide +kernel) (by decide +kernel)
set_option maxRecDepth 20000 in
theorem gX2_asks_X2_begin : GoodIn wsX2_asks (wsV RX2 126 RX2 yX2_begin wsX2_begin) := goodIn_app (goodIn_of _ (by decide +kernel)) ggX2_asks_X2_begin
theorem dX2_asks_0 : decode cX2_asks 0 = .ok (.aload_n 0, 1) := by decide +kernel
theorem dX2_asks_1 : decode cX2_asks 1 = .ok (.getfield 67, 3) := by decide +kernel
theorem dX2_asks_4 : decode cX2_asks 4 = .ok (.aload_n 0, 1) := by decide +kernel
theorem dX2_asks_5 : decode cX2_asks 5 = .ok (.getfield 119, 3) := by decide +kernel
theorem dX2_asks_8 : decode cX2_asks 8 = .ok (.iconst 1, 1) := by decide +kernel
theorem dX2_asks_9 : decode cX2_asks 9 = .ok (.isub, 1) := by decide +kernel
theorem dX2_asks_10 : decode cX2_asks 10 = .ok (.dup2, 1) := by decide +kernel
theorem dX2_asks_11 : decode cX2_asks 11 = .ok (.iaload, 1) := by decide +kernel
theorem dX2_asks_12 : decode cX2_asks 12 = .ok (.iconst 1, 1) := by decide +kernel
theorem dX2_asks_13 : decode cX2_asks 13 = .ok (.iadd, 1) := by decide +kernel
theorem dX2_asks_14 : decode cX2_asks 14 = .ok (.iastore, 1) := by decide +kernel
theorem dX2_asks_15 : decode cX2_asks 15 = .ok (.aload_n 0, 1) := by decide +kernel
theorem dX2_asks_16 : decode cX2_asks 16 = .ok (.iload_n 1, 1) := by decide +kernel
theorem dX2_asks_17 : decode cX2_asks 17 = .ok (.iload_n 2, 1) := by decide +kernel
theorem dX2_asks_18 : decode cX2_asks 18 = .ok (.iload_n 3, 1) := by decide +kernel
theorem dX2_asks_19 : decode cX2_asks 19 = .ok (.invokevirtual 126, 3) := by decide +kernel
theorem dX2_asks_22 : decode cX2_asks 22 = .ok (.return_, 1) := by decide +kernel
set_option maxRecDepth 20000 in
theorem ggX2_go_X2_gives : GoodIn wsX2_go wsX2_gives := goodIn_r _ [16, 17, 1, 60, 61, 62, 63, 64, 65, 66, 67, 68, 69, 70, 71, 72, 73, 74, 75, 76, 77, 78, 79, 80, 81, 82, 83, 84, 85, 86, 87] (by decide +kernel) (by decide +kernel)
set_option maxRecDepth 20000 in
theorem gX2_go_X2_gives : GoodIn wsX2_go (wsV RX2 130 RX2 yX2_gives wsX2_gives) := goodIn_app (goodIn_of _ (by decide +kernel)) ggX2_go_X2_gives
set_option maxRecDepth 20000 in
theorem ggX2_go_X2_in : GoodIn wsX2_go wsX2_in := goodIn_r _ [20] (by decide +kernel) (by decide +kernel)
set_option maxRecDepth 20000 in
theorem gX2_go_X2_in : GoodIn wsX2_go (va_wsS RX2 77 yX2_in wsX2_in) := goodIn_app (goodIn_of _ (by decide +kernel)) ggX2_go_X2_in
set_option maxRecDepth 20000 in
theorem ggX2_go_X2_fails : GoodIn wsX2_go wsX2_fails := goodIn_r _ [24, 25, 1, 60, 61, 62, 63, 64, 65, 66, 67, 68, 69, 70, 71, 72, 73, 74, 75, 76, 77, 78, 79, 80, 81, 82, 83, 84, 85, 86, 87] (by decide +kernel) (by decide +kernel)
set_option maxRecDepth 20000 in
theorem gX2_go_X2_fails : GoodIn wsX2_go (wsV RX2 134 RX2 yX2_fails wsX2_fails) := goodIn_app (goodIn_of _ (by decide +kernel)) ggX2_go_X2_fails
set_option maxRecDepth 20000 in
theorem ggX2_go_X2_goOn : GoodIn wsX2_go wsX2_goOn := goodIn_r _ [29, 30, 7, 8, 31, 17, 32, 33, 34, 35, 15, 36, 5, 1, 37, 38, 39, 40, 41, 25, 2, 3, 4, 42, 43, 44, 45, 21, 22, 23, 24, 12, 13, 14, 16, 46, 47, 48, 49, 50, 51, 52, 53, 54, 55, 56, 57, 58, 59, 60, 61, 62, 63, 64, 65, 66, 67, 68, 69, 70, 71, 72, 73, 74, 75, 76, 77, 78, 79, 80, 81, 82, 83, 84, 85, 86, 87] (by decide +kernel) (by decide +kernel)
set_option maxRecDepth 20000 in
theorem gX2_go_X2_goOn : GoodIn wsX2_go (wsV RX2 138 RX2 yX2_goOn wsX2_goOn) := goodIn_app (goodIn_of _ (by decide +kernel)) ggX2_go_X2_goOn
theorem dX2_go_0 : decode cX2_go 0 = .ok (.aload_n 0, 1) := by decide +kernel
theorem dX2_go_1 : decode cX2_go 1 = .ok (.getfield 119, 3) := by decide +kernel
theorem dX2_go_4 : decode cX2_go 4 = .ok (.iconst 1, 1) := by decide +kernel
theorem dX2_go_5 : decode cX2_go 5 = .ok (.isub, 1) := by decide +kernel
theorem dX2_go_6 : decode cX2_go 6 = .ok (.istore_n 1, 1) := by decide +kernel
theorem dX2_go_7 : decode cX2_go 7 = .ok (.aload_n 0, 1) := by decide +kernel
theorem dX2_go_8 : decode cX2_go 8 = .ok (.getfield 58, 3) := by decide +kernel
theorem dX2_go_11 : decode cX2_go 11 = .ok (.iload_n 1, 1) := by decide +kernel
theorem dX2_go_12 : decode cX2_go 12 = .ok (.iaload, 1) := by decide +kernel
theorem dX2_go_13 : decode cX2_go 13 = .ok (.istore_n 2, 1) := by decide +kernel
theorem dX2_go_14 : decode cX2_go 14 = .ok (.aload_n 0, 1) := by decide +kernel
theorem dX2_go_15 : decode cX2_go 15 = .ok (.getfield 61, 3) := by decide +kernel
theorem dX2_go_18 : decode cX2_go 18 = .ok (.iload_n 1, 1) := by decide +kernel
theorem dX2_go_19 : decode cX2_go 19 = .ok (.iaload, 1) := by decide +kernel
theorem dX2_go_20 : decode cX2_go 20 = .ok (.istore_n 3, 1) := by decide +kernel
theorem dX2_go_21 : decode cX2_go 21 = .ok (.aload_n 0, 1) := by decide +kernel
theorem dX2_go_22 : decode cX2_go 22 = .ok (.getfield 64, 3) := by decide +kernel
theorem dX2_go_25 : decode cX2_go 25 = .ok (.iload_n 1, 1) := by decide +kernel
theorem dX2_go_26 : decode cX2_go 26 = .ok (.iaload, 1) := by decide +kernel
theorem dX2_go_27 : decode cX2_go 27 = .ok (.istore 4, 2) := by decide +kernel
theorem dX2_go_29 : decode cX2_go 29 = .ok (.aload_n 0, 1) := by decide +kernel
theorem dX2_go_30 : decode cX2_go 30 = .ok (.getfield 67, 3) := by decide +kernel
theorem dX2_go_33 : decode cX2_go 33 = .ok (.iload_n 1, 1) := by decide +kernel
theorem dX2_go_34 : decode cX2_go 34 = .ok (.iaload, 1) := by decide +kernel
theorem dX2_go_35 : decode cX2_go 35 = .ok (.istore 5, 2) := by decide +kernel
theorem dX2_go_37 : decode cX2_go 37 = .ok (.aload_n 0, 1) := by decide +kernel
theorem dX2_go_38 : decode cX2_go 38 = .ok (.getfield 26, 3) := by decide +kernel
theorem dX2_go_41 : decode cX2_go 41 = .ok (.iload_n 2, 1) := by decide +kernel
theorem dX2_go_42 : decode cX2_go 42 = .ok (.iaload, 1) := by decide +kernel
theorem dX2_go_43 : decode cX2_go 43 = .ok (.istore 6, 2) := by decide +kernel
theorem dX2_go_45 : decode cX2_go 45 = .ok (.aload_n 0, 1) := by decide +kernel
theorem dX2_go_46 : decode cX2_go 46 = .ok (.getfield 35, 3) := by decide +kernel
theorem dX2_go_49 : decode cX2_go 49 = .ok (.iload_n 2, 1) := by decide +kernel
theorem dX2_go_50 : decode cX2_go 50 = .ok (.laload, 1) := by decide +kernel
theorem dX2_go_51 : decode cX2_go 51 = .ok (.lstore 7, 2) := by decide +kernel
theorem dX2_go_53 : decode cX2_go 53 = .ok (.aload_n 0, 1) := by decide +kernel
theorem dX2_go_54 : decode cX2_go 54 = .ok (.getfield 23, 3) := by decide +kernel
theorem dX2_go_57 : decode cX2_go 57 = .ok (.iload_n 2, 1) := by decide +kernel
theorem dX2_go_58 : decode cX2_go 58 = .ok (.iaload, 1) := by decide +kernel
theorem dX2_go_59 : decode cX2_go 59 = .ok (.tableswitch 116 0 3 #[29, 38, 50, 68], 29) := by decide +kernel
theorem dX2_go_88 : decode cX2_go 88 = .ok (.aload_n 0, 1) := by decide +kernel
theorem dX2_go_89 : decode cX2_go 89 = .ok (.lload 7, 2) := by decide +kernel
theorem dX2_go_91 : decode cX2_go 91 = .ok (.invokevirtual 130, 3) := by decide +kernel
theorem dX2_go_94 : decode cX2_go 94 = .ok (.goto 94, 3) := by decide +kernel
theorem dX2_go_97 : decode cX2_go 97 = .ok (.aload_n 0, 1) := by decide +kernel
theorem dX2_go_98 : decode cX2_go 98 = .ok (.iload_n 3, 1) := by decide +kernel
theorem dX2_go_99 : decode cX2_go 99 = .ok (.i2l, 1) := by decide +kernel
theorem dX2_go_100 : decode cX2_go 100 = .ok (.lload 7, 2) := by decide +kernel
theorem dX2_go_102 : decode cX2_go 102 = .ok (.lmul, 1) := by decide +kernel
theorem dX2_go_103 : decode cX2_go 103 = .ok (.invokevirtual 130, 3) := by decide +kernel
theorem dX2_go_106 : decode cX2_go 106 = .ok (.goto 82, 3) := by decide +kernel
theorem dX2_go_109 : decode cX2_go 109 = .ok (.aload_n 0, 1) := by decide +kernel
theorem dX2_go_110 : decode cX2_go 110 = .ok (.iload_n 3, 1) := by decide +kernel
theorem dX2_go_111 : decode cX2_go 111 = .ok (.i2l, 1) := by decide +kernel
theorem dX2_go_112 : decode cX2_go 112 = .ok (.aload_n 0, 1) := by decide +kernel
theorem dX2_go_113 : decode cX2_go 113 = .ok (.getfield 7, 3) := by decide +kernel
theorem dX2_go_116 : decode cX2_go 116 = .ok (.iload 6, 2) := by decide +kernel
theorem dX2_go_118 : decode cX2_go 118 = .ok (.iaload, 1) := by decide +kernel
theorem dX2_go_119 : decode cX2_go 119 = .ok (.i2l, 1) := by decide +kernel
theorem dX2_go_120 : decode cX2_go 120 = .ok (.lmul, 1) := by decide +kernel
theorem dX2_go_121 : decode cX2_go 121 = .ok (.invokevirtual 130, 3) := by decide +kernel
theorem dX2_go_124 : decode cX2_go 124 = .ok (.goto 64, 3) := by decide +kernel
theorem dX2_go_127 : decode cX2_go 127 = .ok (.iload 4, 2) := by decide +kernel
theorem dX2_go_129 : decode cX2_go 129 = .ok (.iconst 0, 1) := by decide +kernel
theorem dX2_go_130 : decode cX2_go 130 = .ok (.aload_n 0, 1) := by decide +kernel
theorem dX2_go_131 : decode cX2_go 131 = .ok (.getfield 16, 3) := by decide +kernel
theorem dX2_go_134 : decode cX2_go 134 = .ok (.iload 6, 2) := by decide +kernel
theorem dX2_go_136 : decode cX2_go 136 = .ok (.iaload, 1) := by decide +kernel
theorem dX2_go_137 : decode cX2_go 137 = .ok (.iconst 1, 1) := by decide +kernel
theorem dX2_go_138 : decode cX2_go 138 = .ok (.isub, 1) := by decide +kernel
theorem dX2_go_139 : decode cX2_go 139 = .ok (.invokestatic 77, 3) := by decide +kernel
theorem dX2_go_142 : decode cX2_go 142 = .ok (.ifCond .eq 24, 3) := by decide +kernel
theorem dX2_go_145 : decode cX2_go 145 = .ok (.aload_n 0, 1) := by decide +kernel
theorem dX2_go_146 : decode cX2_go 146 = .ok (.aload_n 0, 1) := by decide +kernel
theorem dX2_go_147 : decode cX2_go 147 = .ok (.getfield 20, 3) := by decide +kernel
theorem dX2_go_150 : decode cX2_go 150 = .ok (.bipush 8, 2) := by decide +kernel
theorem dX2_go_152 : decode cX2_go 152 = .ok (.iload 6, 2) := by decide +kernel
theorem dX2_go_154 : decode cX2_go 154 = .ok (.imul, 1) := by decide +kernel
theorem dX2_go_155 : decode cX2_go 155 = .ok (.iload 4, 2) := by decide +kernel
theorem dX2_go_157 : decode cX2_go 157 = .ok (.iadd, 1) := by decide +kernel
theorem dX2_go_158 : decode cX2_go 158 = .ok (.iaload, 1) := by decide +kernel
theorem dX2_go_159 : decode cX2_go 159 = .ok (.i2l, 1) := by decide +kernel
theorem dX2_go_160 : decode cX2_go 160 = .ok (.invokevirtual 130, 3) := by decide +kernel
theorem dX2_go_163 : decode cX2_go 163 = .ok (.goto 25, 3) := by decide +kernel
theorem dX2_go_166 : decode cX2_go 166 = .ok (.aload_n 0, 1) := by decide +kernel
theorem dX2_go_167 : decode cX2_go 167 = .ok (.bipush (-4), 2) := by decide +kernel
theorem dX2_go_169 : decode cX2_go 169 = .ok (.invokevirtual 134, 3) := by decide +kernel
theorem dX2_go_172 : decode cX2_go 172 = .ok (.goto 16, 3) := by decide +kernel
theorem dX2_go_175 : decode cX2_go 175 = .ok (.aload_n 0, 1) := by decide +kernel
theorem dX2_go_176 : decode cX2_go 176 = .ok (.iload_n 1, 1) := by decide +kernel
theorem dX2_go_177 : decode cX2_go 177 = .ok (.iload_n 2, 1) := by decide +kernel
theorem dX2_go_178 : decode cX2_go 178 = .ok (.iload_n 3, 1) := by decide +kernel
theorem dX2_go_179 : decode cX2_go 179 = .ok (.iload 4, 2) := by decide +kernel
theorem dX2_go_181 : decode cX2_go 181 = .ok (.iload 5, 2) := by decide +kernel
theorem dX2_go_183 : decode cX2_go 183 = .ok (.iload 6, 2) := by decide +kernel
theorem dX2_go_185 : decode cX2_go 185 = .ok (.invokevirtual 138, 3) := by decide +kernel
theorem dX2_go_188 : decode cX2_go 188 = .ok (.return_, 1) := by decide +kernel
set_option maxRecDepth 20000 in
theorem ggX2_goOn_X2_asks : GoodIn wsX2_goOn wsX2_asks := goodIn_r _ [11, 12, 13, 14, 15, 16, 10, 17, 18, 19, 20, 21, 22, 4, 49, 50, 51, 52, 53, 54, 55, 56, 57, 58, 59, 60, 61, 62, 63, 64, 65, 66, 67, 68, 69, 70, 71, 72, 73, 74, 75, 76] (by decide +kernel) (by decide +kernel)
set_option maxRecDepth 20000 in
theorem gX2_goOn_X2_asks : GoodIn wsX2_goOn (wsV RX2 142 RX2 yX2_asks wsX2_asks) := goodIn_app (goodIn_of _ (by decide +kernel)) ggX2_goOn_X2_asks
set_option maxRecDepth 20000 in
theorem ggX2_goOn_X2_join : GoodIn wsX2_goOn wsX2_join := goodIn_r _ [26, 27, 28, 29, 10, 30, 19, 13, 31, 32, 33, 34, 5, 49, 50, 51, 52, 53, 54, 55, 56, 57, 58, 59, 60, 61, 62, 63, 64, 65, 66, 67, 68, 69, 70, 71, 72, 73, 74, 75, 76] (by decide +kernel) (by decide +kernel)
set_option maxRecDepth 20000 in
theorem gX2_goOn_X2_join : GoodIn wsX2_goOn (wsV RX2 145 RX2 yX2_join wsX2_join) := goodIn_app (goodIn_of _ (by decide +kernel)) ggX2_goOn_X2_join
set_option maxRecDepth 20000 in
theorem ggX2_goOn_X2_gives : GoodIn wsX2_goOn wsX2_gives := goodIn_r _ [34, 5, 13, 49, 50, 51, 52, 53, 54, 55, 56, 57, 58, 59, 60, 61, 62, 63, 64, 65, 66, 67, 68, 69, 70, 71, 72, 73, 74, 75, 76] (by decide +kernel) (by decide +kernel)
set_option maxRecDepth 20000 in
theorem gX2_goOn_X2_gives : GoodIn wsX2_goOn (wsV RX2 130 RX2 yX2_gives wsX2_gives) := goodIn_app (goodIn_of _ (by decide +kernel)) ggX2_goOn_X2_gives
set_option maxRecDepth 20000 in
theorem ggX2_goOn_X2_goFar : GoodIn wsX2_goOn wsX2_goFar := goodIn_r _ [38, 3, 5, 2, 39, 40, 41, 42, 43, 31, 32, 33, 10, 34, 13, 44, 45, 46, 47, 48, 7, 8, 9, 11, 12, 14, 15, 16, 17, 18, 19, 20, 21, 22, 4, 27, 28, 29, 30, 49, 50, 51, 52, 53, 54, 55, 56, 57, 58, 59, 60, 61, 62, 63, 64, 65, 66, 67, 68, 69, 70, 71, 72, 73, 74, 75, 76] (by decide +kernel) (by decide +kernel)
set_option maxRecDepth 20000 in
theorem gX2_goOn_X2_goFar : GoodIn wsX2_goOn (wsV RX2 149 RX2 yX2_goFar wsX2_goFar) := goodIn_app (goodIn_of _ (by decide +kernel)) ggX2_goOn_X2_goFar
theorem dX2_goOn_0 : decode cX2_goOn 0 = .ok (.aload_n 0, 1) := by decide +kernel
theorem dX2_goOn_1 : decode cX2_goOn 1 = .ok (.getfield 29, 3) := by decide +kernel
theorem dX2_goOn_4 : decode cX2_goOn 4 = .ok (.iload_n 2, 1) := by decide +kernel
theorem dX2_goOn_5 : decode cX2_goOn 5 = .ok (.iaload, 1) := by decide +kernel
theorem dX2_goOn_6 : decode cX2_goOn 6 = .ok (.istore 7, 2) := by decide +kernel
theorem dX2_goOn_8 : decode cX2_goOn 8 = .ok (.aload_n 0, 1) := by decide +kernel
theorem dX2_goOn_9 : decode cX2_goOn 9 = .ok (.getfield 35, 3) := by decide +kernel
theorem dX2_goOn_12 : decode cX2_goOn 12 = .ok (.iload_n 2, 1) := by decide +kernel
theorem dX2_goOn_13 : decode cX2_goOn 13 = .ok (.laload, 1) := by decide +kernel
theorem dX2_goOn_14 : decode cX2_goOn 14 = .ok (.lstore 8, 2) := by decide +kernel
theorem dX2_goOn_16 : decode cX2_goOn 16 = .ok (.aload_n 0, 1) := by decide +kernel
theorem dX2_goOn_17 : decode cX2_goOn 17 = .ok (.getfield 23, 3) := by decide +kernel
theorem dX2_goOn_20 : decode cX2_goOn 20 = .ok (.iload_n 2, 1) := by decide +kernel
theorem dX2_goOn_21 : decode cX2_goOn 21 = .ok (.iaload, 1) := by decide +kernel
theorem dX2_goOn_22 : decode cX2_goOn 22 = .ok (.tableswitch 270 4 8 #[34, 99, 163, 192, 242], 34) := by decide +kernel
theorem dX2_goOn_56 : decode cX2_goOn 56 = .ok (.iload 5, 2) := by decide +kernel
theorem dX2_goOn_58 : decode cX2_goOn 58 = .ok (.ifCond .ne 15, 3) := by decide +kernel
theorem dX2_goOn_61 : decode cX2_goOn 61 = .ok (.aload_n 0, 1) := by decide +kernel
theorem dX2_goOn_62 : decode cX2_goOn 62 = .ok (.iload 6, 2) := by decide +kernel
theorem dX2_goOn_64 : decode cX2_goOn 64 = .ok (.iload_n 3, 1) := by decide +kernel
theorem dX2_goOn_65 : decode cX2_goOn 65 = .ok (.iload 4, 2) := by decide +kernel
theorem dX2_goOn_67 : decode cX2_goOn 67 = .ok (.invokevirtual 142, 3) := by decide +kernel
theorem dX2_goOn_70 : decode cX2_goOn 70 = .ok (.goto 234, 3) := by decide +kernel
theorem dX2_goOn_73 : decode cX2_goOn 73 = .ok (.iload 5, 2) := by decide +kernel
theorem dX2_goOn_75 : decode cX2_goOn 75 = .ok (.iconst 1, 1) := by decide +kernel
theorem dX2_goOn_76 : decode cX2_goOn 76 = .ok (.if_icmp .ne 25, 3) := by decide +kernel
theorem dX2_goOn_79 : decode cX2_goOn 79 = .ok (.aload_n 0, 1) := by decide +kernel
theorem dX2_goOn_80 : decode cX2_goOn 80 = .ok (.getfield 70, 3) := by decide +kernel
theorem dX2_goOn_83 : decode cX2_goOn 83 = .ok (.iload_n 1, 1) := by decide +kernel
theorem dX2_goOn_84 : decode cX2_goOn 84 = .ok (.aload_n 0, 1) := by decide +kernel
theorem dX2_goOn_85 : decode cX2_goOn 85 = .ok (.getfield 122, 3) := by decide +kernel
theorem dX2_goOn_88 : decode cX2_goOn 88 = .ok (.lastore, 1) := by decide +kernel
theorem dX2_goOn_89 : decode cX2_goOn 89 = .ok (.aload_n 0, 1) := by decide +kernel
theorem dX2_goOn_90 : decode cX2_goOn 90 = .ok (.iload 7, 2) := by decide +kernel
theorem dX2_goOn_92 : decode cX2_goOn 92 = .ok (.iload_n 3, 1) := by decide +kernel
theorem dX2_goOn_93 : decode cX2_goOn 93 = .ok (.iload 4, 2) := by decide +kernel
theorem dX2_goOn_95 : decode cX2_goOn 95 = .ok (.invokevirtual 142, 3) := by decide +kernel
theorem dX2_goOn_98 : decode cX2_goOn 98 = .ok (.goto 206, 3) := by decide +kernel
theorem dX2_goOn_101 : decode cX2_goOn 101 = .ok (.aload_n 0, 1) := by decide +kernel
theorem dX2_goOn_102 : decode cX2_goOn 102 = .ok (.lload 8, 2) := by decide +kernel
theorem dX2_goOn_104 : decode cX2_goOn 104 = .ok (.l2i, 1) := by decide +kernel
theorem dX2_goOn_105 : decode cX2_goOn 105 = .ok (.aload_n 0, 1) := by decide +kernel
theorem dX2_goOn_106 : decode cX2_goOn 106 = .ok (.getfield 70, 3) := by decide +kernel
theorem dX2_goOn_109 : decode cX2_goOn 109 = .ok (.iload_n 1, 1) := by decide +kernel
theorem dX2_goOn_110 : decode cX2_goOn 110 = .ok (.laload, 1) := by decide +kernel
theorem dX2_goOn_111 : decode cX2_goOn 111 = .ok (.aload_n 0, 1) := by decide +kernel
theorem dX2_goOn_112 : decode cX2_goOn 112 = .ok (.getfield 122, 3) := by decide +kernel
theorem dX2_goOn_115 : decode cX2_goOn 115 = .ok (.invokevirtual 145, 3) := by decide +kernel
theorem dX2_goOn_118 : decode cX2_goOn 118 = .ok (.goto 186, 3) := by decide +kernel
theorem dX2_goOn_121 : decode cX2_goOn 121 = .ok (.iload 5, 2) := by decide +kernel
theorem dX2_goOn_123 : decode cX2_goOn 123 = .ok (.ifCond .ne 15, 3) := by decide +kernel
theorem dX2_goOn_126 : decode cX2_goOn 126 = .ok (.aload_n 0, 1) := by decide +kernel
theorem dX2_goOn_127 : decode cX2_goOn 127 = .ok (.iload 6, 2) := by decide +kernel
theorem dX2_goOn_129 : decode cX2_goOn 129 = .ok (.iload_n 3, 1) := by decide +kernel
theorem dX2_goOn_130 : decode cX2_goOn 130 = .ok (.iload 4, 2) := by decide +kernel
theorem dX2_goOn_132 : decode cX2_goOn 132 = .ok (.invokevirtual 142, 3) := by decide +kernel
theorem dX2_goOn_135 : decode cX2_goOn 135 = .ok (.goto 169, 3) := by decide +kernel
theorem dX2_goOn_138 : decode cX2_goOn 138 = .ok (.iload 5, 2) := by decide +kernel
theorem dX2_goOn_140 : decode cX2_goOn 140 = .ok (.iconst 1, 1) := by decide +kernel
theorem dX2_goOn_141 : decode cX2_goOn 141 = .ok (.if_icmp .ne 33, 3) := by decide +kernel
theorem dX2_goOn_144 : decode cX2_goOn 144 = .ok (.aload_n 0, 1) := by decide +kernel
theorem dX2_goOn_145 : decode cX2_goOn 145 = .ok (.aload_n 0, 1) := by decide +kernel
theorem dX2_goOn_146 : decode cX2_goOn 146 = .ok (.getfield 122, 3) := by decide +kernel
theorem dX2_goOn_149 : decode cX2_goOn 149 = .ok (.lconst 0, 1) := by decide +kernel
theorem dX2_goOn_150 : decode cX2_goOn 150 = .ok (.lcmp, 1) := by decide +kernel
theorem dX2_goOn_151 : decode cX2_goOn 151 = .ok (.ifCond .le 8, 3) := by decide +kernel
theorem dX2_goOn_154 : decode cX2_goOn 154 = .ok (.iload 7, 2) := by decide +kernel
theorem dX2_goOn_156 : decode cX2_goOn 156 = .ok (.goto 9, 3) := by decide +kernel
theorem dX2_goOn_159 : decode cX2_goOn 159 = .ok (.aload_n 0, 1) := by decide +kernel
theorem dX2_goOn_160 : decode cX2_goOn 160 = .ok (.getfield 32, 3) := by decide +kernel
theorem dX2_goOn_163 : decode cX2_goOn 163 = .ok (.iload_n 2, 1) := by decide +kernel
theorem dX2_goOn_164 : decode cX2_goOn 164 = .ok (.iaload, 1) := by decide +kernel
theorem dX2_goOn_165 : decode cX2_goOn 165 = .ok (.iload_n 3, 1) := by decide +kernel
theorem dX2_goOn_166 : decode cX2_goOn 166 = .ok (.iload 4, 2) := by decide +kernel
theorem dX2_goOn_168 : decode cX2_goOn 168 = .ok (.invokevirtual 142, 3) := by decide +kernel
theorem dX2_goOn_171 : decode cX2_goOn 171 = .ok (.goto 133, 3) := by decide +kernel
theorem dX2_goOn_174 : decode cX2_goOn 174 = .ok (.aload_n 0, 1) := by decide +kernel
theorem dX2_goOn_175 : decode cX2_goOn 175 = .ok (.aload_n 0, 1) := by decide +kernel
theorem dX2_goOn_176 : decode cX2_goOn 176 = .ok (.getfield 122, 3) := by decide +kernel
theorem dX2_goOn_179 : decode cX2_goOn 179 = .ok (.invokevirtual 130, 3) := by decide +kernel
theorem dX2_goOn_182 : decode cX2_goOn 182 = .ok (.goto 122, 3) := by decide +kernel
theorem dX2_goOn_185 : decode cX2_goOn 185 = .ok (.iload 5, 2) := by decide +kernel
theorem dX2_goOn_187 : decode cX2_goOn 187 = .ok (.ifCond .ne 16, 3) := by decide +kernel
theorem dX2_goOn_190 : decode cX2_goOn 190 = .ok (.aload_n 0, 1) := by decide +kernel
theorem dX2_goOn_191 : decode cX2_goOn 191 = .ok (.iload 6, 2) := by decide +kernel
theorem dX2_goOn_193 : decode cX2_goOn 193 = .ok (.iload_n 3, 1) := by decide +kernel
theorem dX2_goOn_194 : decode cX2_goOn 194 = .ok (.lload 8, 2) := by decide +kernel
theorem dX2_goOn_196 : decode cX2_goOn 196 = .ok (.l2i, 1) := by decide +kernel
theorem dX2_goOn_197 : decode cX2_goOn 197 = .ok (.invokevirtual 142, 3) := by decide +kernel
theorem dX2_goOn_200 : decode cX2_goOn 200 = .ok (.goto 104, 3) := by decide +kernel
theorem dX2_goOn_203 : decode cX2_goOn 203 = .ok (.aload_n 0, 1) := by decide +kernel
theorem dX2_goOn_204 : decode cX2_goOn 204 = .ok (.aload_n 0, 1) := by decide +kernel
theorem dX2_goOn_205 : decode cX2_goOn 205 = .ok (.getfield 122, 3) := by decide +kernel
theorem dX2_goOn_208 : decode cX2_goOn 208 = .ok (.invokevirtual 130, 3) := by decide +kernel
theorem dX2_goOn_211 : decode cX2_goOn 211 = .ok (.goto 93, 3) := by decide +kernel
theorem dX2_goOn_214 : decode cX2_goOn 214 = .ok (.iload 5, 2) := by decide +kernel
theorem dX2_goOn_216 : decode cX2_goOn 216 = .ok (.ifCond .ne 15, 3) := by decide +kernel
theorem dX2_goOn_219 : decode cX2_goOn 219 = .ok (.aload_n 0, 1) := by decide +kernel
theorem dX2_goOn_220 : decode cX2_goOn 220 = .ok (.iload 7, 2) := by decide +kernel
theorem dX2_goOn_222 : decode cX2_goOn 222 = .ok (.iload_n 3, 1) := by decide +kernel
theorem dX2_goOn_223 : decode cX2_goOn 223 = .ok (.iload 4, 2) := by decide +kernel
theorem dX2_goOn_225 : decode cX2_goOn 225 = .ok (.invokevirtual 142, 3) := by decide +kernel
theorem dX2_goOn_228 : decode cX2_goOn 228 = .ok (.goto 76, 3) := by decide +kernel
theorem dX2_goOn_231 : decode cX2_goOn 231 = .ok (.iload 5, 2) := by decide +kernel
theorem dX2_goOn_233 : decode cX2_goOn 233 = .ok (.iconst 1, 1) := by decide +kernel
theorem dX2_goOn_234 : decode cX2_goOn 234 = .ok (.if_icmp .ne 19, 3) := by decide +kernel
theorem dX2_goOn_237 : decode cX2_goOn 237 = .ok (.aload_n 0, 1) := by decide +kernel
theorem dX2_goOn_238 : decode cX2_goOn 238 = .ok (.iload 6, 2) := by decide +kernel
theorem dX2_goOn_240 : decode cX2_goOn 240 = .ok (.aload_n 0, 1) := by decide +kernel
theorem dX2_goOn_241 : decode cX2_goOn 241 = .ok (.getfield 122, 3) := by decide +kernel
theorem dX2_goOn_244 : decode cX2_goOn 244 = .ok (.l2i, 1) := by decide +kernel
theorem dX2_goOn_245 : decode cX2_goOn 245 = .ok (.iload 4, 2) := by decide +kernel
theorem dX2_goOn_247 : decode cX2_goOn 247 = .ok (.invokevirtual 142, 3) := by decide +kernel
theorem dX2_goOn_250 : decode cX2_goOn 250 = .ok (.goto 54, 3) := by decide +kernel
theorem dX2_goOn_253 : decode cX2_goOn 253 = .ok (.aload_n 0, 1) := by decide +kernel
theorem dX2_goOn_254 : decode cX2_goOn 254 = .ok (.aload_n 0, 1) := by decide +kernel
theorem dX2_goOn_255 : decode cX2_goOn 255 = .ok (.getfield 122, 3) := by decide +kernel
theorem dX2_goOn_258 : decode cX2_goOn 258 = .ok (.invokevirtual 130, 3) := by decide +kernel
theorem dX2_goOn_261 : decode cX2_goOn 261 = .ok (.goto 43, 3) := by decide +kernel
theorem dX2_goOn_264 : decode cX2_goOn 264 = .ok (.iload 5, 2) := by decide +kernel
theorem dX2_goOn_266 : decode cX2_goOn 266 = .ok (.ifCond .ne 15, 3) := by decide +kernel
theorem dX2_goOn_269 : decode cX2_goOn 269 = .ok (.aload_n 0, 1) := by decide +kernel
theorem dX2_goOn_270 : decode cX2_goOn 270 = .ok (.iload 6, 2) := by decide +kernel
theorem dX2_goOn_272 : decode cX2_goOn 272 = .ok (.iload_n 3, 1) := by decide +kernel
theorem dX2_goOn_273 : decode cX2_goOn 273 = .ok (.iload 4, 2) := by decide +kernel
theorem dX2_goOn_275 : decode cX2_goOn 275 = .ok (.invokevirtual 142, 3) := by decide +kernel
theorem dX2_goOn_278 : decode cX2_goOn 278 = .ok (.goto 26, 3) := by decide +kernel
theorem dX2_goOn_281 : decode cX2_goOn 281 = .ok (.aload_n 0, 1) := by decide +kernel
theorem dX2_goOn_282 : decode cX2_goOn 282 = .ok (.aload_n 0, 1) := by decide +kernel
theorem dX2_goOn_283 : decode cX2_goOn 283 = .ok (.getfield 122, 3) := by decide +kernel
theorem dX2_goOn_286 : decode cX2_goOn 286 = .ok (.invokevirtual 130, 3) := by decide +kernel
theorem dX2_goOn_289 : decode cX2_goOn 289 = .ok (.goto 15, 3) := by decide +kernel
theorem dX2_goOn_292 : decode cX2_goOn 292 = .ok (.aload_n 0, 1) := by decide +kernel
theorem dX2_goOn_293 : decode cX2_goOn 293 = .ok (.iload_n 2, 1) := by decide +kernel
theorem dX2_goOn_294 : decode cX2_goOn 294 = .ok (.iload_n 3, 1) := by decide +kernel
theorem dX2_goOn_295 : decode cX2_goOn 295 = .ok (.iload 4, 2) := by decide +kernel
theorem dX2_goOn_297 : decode cX2_goOn 297 = .ok (.iload 5, 2) := by decide +kernel
theorem dX2_goOn_299 : decode cX2_goOn 299 = .ok (.iload 6, 2) := by decide +kernel
theorem dX2_goOn_301 : decode cX2_goOn 301 = .ok (.invokevirtual 149, 3) := by decide +kernel
theorem dX2_goOn_304 : decode cX2_goOn 304 = .ok (.return_, 1) := by decide +kernel
set_option maxRecDepth 20000 in
theorem ggX2_goFar_X2_gives : GoodIn wsX2_goFar wsX2_gives := goodIn_r _ [13, 2, 14, 39, 40, 41, 42, 43, 44, 45, 46, 47, 48, 49, 50, 51, 52, 53, 54, 55, 56, 57, 58, 59, 60, 61, 62, 63, 64, 65, 66] (by decide +kernel) (by decide +kernel)
set_option maxRecDepth 20000 in
theorem gX2_goFar_X2_gives : GoodIn wsX2_goFar (wsV RX2 130 RX2 yX2_gives wsX2_gives) := goodIn_app (goodIn_of _ (by decide +kernel)) ggX2_goFar_X2_gives
set_option maxRecDepth 20000 in
theorem ggX2_goFar_X2_at : GoodIn wsX2_goFar wsX2_at := goodIn_r _ [18, 19, 39, 40, 41, 42, 43, 44, 45, 46, 47, 48, 49, 50, 51, 52, 53, 54, 55, 56, 57, 58, 59, 60, 61, 62, 63, 64, 65, 66] (by decide +kernel) (by decide +kernel)
set_option maxRecDepth 20000 in
theorem gX2_goFar_X2_at : GoodIn wsX2_goFar (wsV RX2 101 RX2 yX2_at wsX2_at) := goodIn_app (goodIn_of _ (by decide +kernel)) ggX2_goFar_X2_at
set_option maxRecDepth 20000 in
theorem ggX2_goFar_X2_asks : GoodIn wsX2_goFar wsX2_asks := goodIn_r _ [23, 24, 14, 25, 26, 27, 12, 28, 29, 30, 31, 32, 33, 34, 39, 40, 41, 42, 43, 44, 45, 46, 47, 48, 49, 50, 51, 52, 53, 54, 55, 56, 57, 58, 59, 60, 61, 62, 63, 64, 65, 66] (by decide +kernel) (by decide +kernel)
set_option maxRecDepth 20000 in
theorem gX2_goFar_X2_asks : GoodIn wsX2_goFar (wsV RX2 142 RX2 yX2_asks wsX2_asks) := goodIn_app (goodIn_of _ (by decide +kernel)) ggX2_goFar_X2_asks
set_option maxRecDepth 20000 in
theorem ggX2_goFar_X2_fails : GoodIn wsX2_goFar wsX2_fails := goodIn_r _ [38, 30, 14, 39, 40, 41, 42, 43, 44, 45, 46, 47, 48, 49, 50, 51, 52, 53, 54, 55, 56, 57, 58, 59, 60, 61, 62, 63, 64, 65, 66] (by decide +kernel) (by decide +kernel)
set_option maxRecDepth 20000 in
theorem gX2_goFar_X2_fails : GoodIn wsX2_goFar (wsV RX2 134 RX2 yX2_fails wsX2_fails) := goodIn_app (goodIn_of _ (by decide +kernel)) ggX2_goFar_X2_fails
theorem dX2_goFar_0 : decode cX2_goFar 0 = .ok (.aload_n 0, 1) := by decide +kernel
theorem dX2_goFar_1 : decode cX2_goFar 1 = .ok (.getfield 23, 3) := by decide +kernel
theorem dX2_goFar_4 : decode cX2_goFar 4 = .ok (.iload_n 1, 1) := by decide +kernel
theorem dX2_goFar_5 : decode cX2_goFar 5 = .ok (.iaload, 1) := by decide +kernel
theorem dX2_goFar_6 : decode cX2_goFar 6 = .ok (.tableswitch 150 9 11 #[26, 57, 105], 26) := by decide +kernel
theorem dX2_goFar_32 : decode cX2_goFar 32 = .ok (.iload 4, 2) := by decide +kernel
theorem dX2_goFar_34 : decode cX2_goFar 34 = .ok (.ifCond .le 14, 3) := by decide +kernel
theorem dX2_goFar_37 : decode cX2_goFar 37 = .ok (.aload_n 0, 1) := by decide +kernel
theorem dX2_goFar_38 : decode cX2_goFar 38 = .ok (.aload_n 0, 1) := by decide +kernel
theorem dX2_goFar_39 : decode cX2_goFar 39 = .ok (.getfield 122, 3) := by decide +kernel
theorem dX2_goFar_42 : decode cX2_goFar 42 = .ok (.invokevirtual 130, 3) := by decide +kernel
theorem dX2_goFar_45 : decode cX2_goFar 45 = .ok (.goto 208, 3) := by decide +kernel
theorem dX2_goFar_48 : decode cX2_goFar 48 = .ok (.aload_n 0, 1) := by decide +kernel
theorem dX2_goFar_49 : decode cX2_goFar 49 = .ok (.aload_n 0, 1) := by decide +kernel
theorem dX2_goFar_50 : decode cX2_goFar 50 = .ok (.iload 5, 2) := by decide +kernel
theorem dX2_goFar_52 : decode cX2_goFar 52 = .ok (.invokevirtual 101, 3) := by decide +kernel
theorem dX2_goFar_55 : decode cX2_goFar 55 = .ok (.iload_n 2, 1) := by decide +kernel
theorem dX2_goFar_56 : decode cX2_goFar 56 = .ok (.iload_n 3, 1) := by decide +kernel
theorem dX2_goFar_57 : decode cX2_goFar 57 = .ok (.invokevirtual 142, 3) := by decide +kernel
theorem dX2_goFar_60 : decode cX2_goFar 60 = .ok (.goto 193, 3) := by decide +kernel
theorem dX2_goFar_63 : decode cX2_goFar 63 = .ok (.iload 4, 2) := by decide +kernel
theorem dX2_goFar_65 : decode cX2_goFar 65 = .ok (.ifCond .le 14, 3) := by decide +kernel
theorem dX2_goFar_68 : decode cX2_goFar 68 = .ok (.aload_n 0, 1) := by decide +kernel
theorem dX2_goFar_69 : decode cX2_goFar 69 = .ok (.aload_n 0, 1) := by decide +kernel
theorem dX2_goFar_70 : decode cX2_goFar 70 = .ok (.getfield 122, 3) := by decide +kernel
theorem dX2_goFar_73 : decode cX2_goFar 73 = .ok (.invokevirtual 130, 3) := by decide +kernel
theorem dX2_goFar_76 : decode cX2_goFar 76 = .ok (.goto 177, 3) := by decide +kernel
theorem dX2_goFar_79 : decode cX2_goFar 79 = .ok (.iload_n 2, 1) := by decide +kernel
theorem dX2_goFar_80 : decode cX2_goFar 80 = .ok (.i2l, 1) := by decide +kernel
theorem dX2_goFar_81 : decode cX2_goFar 81 = .ok (.aload_n 0, 1) := by decide +kernel
theorem dX2_goFar_82 : decode cX2_goFar 82 = .ok (.getfield 35, 3) := by decide +kernel
theorem dX2_goFar_85 : decode cX2_goFar 85 = .ok (.iload_n 1, 1) := by decide +kernel
theorem dX2_goFar_86 : decode cX2_goFar 86 = .ok (.laload, 1) := by decide +kernel
theorem dX2_goFar_87 : decode cX2_goFar 87 = .ok (.lcmp, 1) := by decide +kernel
theorem dX2_goFar_88 : decode cX2_goFar 88 = .ok (.ifCond .le 12, 3) := by decide +kernel
theorem dX2_goFar_91 : decode cX2_goFar 91 = .ok (.aload_n 0, 1) := by decide +kernel
theorem dX2_goFar_92 : decode cX2_goFar 92 = .ok (.bipush (-5), 2) := by decide +kernel
theorem dX2_goFar_94 : decode cX2_goFar 94 = .ok (.invokevirtual 134, 3) := by decide +kernel
theorem dX2_goFar_97 : decode cX2_goFar 97 = .ok (.goto 156, 3) := by decide +kernel
theorem dX2_goFar_100 : decode cX2_goFar 100 = .ok (.aload_n 0, 1) := by decide +kernel
theorem dX2_goFar_101 : decode cX2_goFar 101 = .ok (.iload 5, 2) := by decide +kernel
theorem dX2_goFar_103 : decode cX2_goFar 103 = .ok (.iload_n 2, 1) := by decide +kernel
theorem dX2_goFar_104 : decode cX2_goFar 104 = .ok (.iload_n 3, 1) := by decide +kernel
theorem dX2_goFar_105 : decode cX2_goFar 105 = .ok (.invokevirtual 142, 3) := by decide +kernel
theorem dX2_goFar_108 : decode cX2_goFar 108 = .ok (.goto 145, 3) := by decide +kernel
theorem dX2_goFar_111 : decode cX2_goFar 111 = .ok (.iload 4, 2) := by decide +kernel
theorem dX2_goFar_113 : decode cX2_goFar 113 = .ok (.ifCond .ne 24, 3) := by decide +kernel
theorem dX2_goFar_116 : decode cX2_goFar 116 = .ok (.aload_n 0, 1) := by decide +kernel
theorem dX2_goFar_117 : decode cX2_goFar 117 = .ok (.getfield 39, 3) := by decide +kernel
theorem dX2_goFar_120 : decode cX2_goFar 120 = .ok (.iload_n 1, 1) := by decide +kernel
theorem dX2_goFar_121 : decode cX2_goFar 121 = .ok (.dup2, 1) := by decide +kernel
theorem dX2_goFar_122 : decode cX2_goFar 122 = .ok (.iaload, 1) := by decide +kernel
theorem dX2_goFar_123 : decode cX2_goFar 123 = .ok (.iconst 1, 1) := by decide +kernel
theorem dX2_goFar_124 : decode cX2_goFar 124 = .ok (.iadd, 1) := by decide +kernel
theorem dX2_goFar_125 : decode cX2_goFar 125 = .ok (.iastore, 1) := by decide +kernel
theorem dX2_goFar_126 : decode cX2_goFar 126 = .ok (.aload_n 0, 1) := by decide +kernel
theorem dX2_goFar_127 : decode cX2_goFar 127 = .ok (.iload 5, 2) := by decide +kernel
theorem dX2_goFar_129 : decode cX2_goFar 129 = .ok (.iload_n 2, 1) := by decide +kernel
theorem dX2_goFar_130 : decode cX2_goFar 130 = .ok (.iload_n 3, 1) := by decide +kernel
theorem dX2_goFar_131 : decode cX2_goFar 131 = .ok (.invokevirtual 142, 3) := by decide +kernel
theorem dX2_goFar_134 : decode cX2_goFar 134 = .ok (.goto 119, 3) := by decide +kernel
theorem dX2_goFar_137 : decode cX2_goFar 137 = .ok (.aload_n 0, 1) := by decide +kernel
theorem dX2_goFar_138 : decode cX2_goFar 138 = .ok (.aload_n 0, 1) := by decide +kernel
theorem dX2_goFar_139 : decode cX2_goFar 139 = .ok (.getfield 122, 3) := by decide +kernel
theorem dX2_goFar_142 : decode cX2_goFar 142 = .ok (.aload_n 0, 1) := by decide +kernel
theorem dX2_goFar_143 : decode cX2_goFar 143 = .ok (.getfield 39, 3) := by decide +kernel
theorem dX2_goFar_146 : decode cX2_goFar 146 = .ok (.iload_n 1, 1) := by decide +kernel
theorem dX2_goFar_147 : decode cX2_goFar 147 = .ok (.iaload, 1) := by decide +kernel
theorem dX2_goFar_148 : decode cX2_goFar 148 = .ok (.i2l, 1) := by decide +kernel
theorem dX2_goFar_149 : decode cX2_goFar 149 = .ok (.ladd, 1) := by decide +kernel
theorem dX2_goFar_150 : decode cX2_goFar 150 = .ok (.invokevirtual 130, 3) := by decide +kernel
theorem dX2_goFar_153 : decode cX2_goFar 153 = .ok (.goto 100, 3) := by decide +kernel
theorem dX2_goFar_156 : decode cX2_goFar 156 = .ok (.iload 4, 2) := by decide +kernel
theorem dX2_goFar_158 : decode cX2_goFar 158 = .ok (.ifCond .le 45, 3) := by decide +kernel
theorem dX2_goFar_161 : decode cX2_goFar 161 = .ok (.aload_n 0, 1) := by decide +kernel
theorem dX2_goFar_162 : decode cX2_goFar 162 = .ok (.getfield 42, 3) := by decide +kernel
theorem dX2_goFar_165 : decode cX2_goFar 165 = .ok (.iload_n 1, 1) := by decide +kernel
theorem dX2_goFar_166 : decode cX2_goFar 166 = .ok (.iconst 1, 1) := by decide +kernel
theorem dX2_goFar_167 : decode cX2_goFar 167 = .ok (.bastore, 1) := by decide +kernel
theorem dX2_goFar_168 : decode cX2_goFar 168 = .ok (.aload_n 0, 1) := by decide +kernel
theorem dX2_goFar_169 : decode cX2_goFar 169 = .ok (.getfield 46, 3) := by decide +kernel
theorem dX2_goFar_172 : decode cX2_goFar 172 = .ok (.iload_n 1, 1) := by decide +kernel
theorem dX2_goFar_173 : decode cX2_goFar 173 = .ok (.iload_n 2, 1) := by decide +kernel
theorem dX2_goFar_174 : decode cX2_goFar 174 = .ok (.iastore, 1) := by decide +kernel
theorem dX2_goFar_175 : decode cX2_goFar 175 = .ok (.aload_n 0, 1) := by decide +kernel
theorem dX2_goFar_176 : decode cX2_goFar 176 = .ok (.getfield 49, 3) := by decide +kernel
theorem dX2_goFar_179 : decode cX2_goFar 179 = .ok (.iload_n 1, 1) := by decide +kernel
theorem dX2_goFar_180 : decode cX2_goFar 180 = .ok (.iload_n 3, 1) := by decide +kernel
theorem dX2_goFar_181 : decode cX2_goFar 181 = .ok (.iastore, 1) := by decide +kernel
theorem dX2_goFar_182 : decode cX2_goFar 182 = .ok (.aload_n 0, 1) := by decide +kernel
theorem dX2_goFar_183 : decode cX2_goFar 183 = .ok (.getfield 52, 3) := by decide +kernel
theorem dX2_goFar_186 : decode cX2_goFar 186 = .ok (.iload_n 1, 1) := by decide +kernel
theorem dX2_goFar_187 : decode cX2_goFar 187 = .ok (.aload_n 0, 1) := by decide +kernel
theorem dX2_goFar_188 : decode cX2_goFar 188 = .ok (.getfield 122, 3) := by decide +kernel
theorem dX2_goFar_191 : decode cX2_goFar 191 = .ok (.lastore, 1) := by decide +kernel
theorem dX2_goFar_192 : decode cX2_goFar 192 = .ok (.aload_n 0, 1) := by decide +kernel
theorem dX2_goFar_193 : decode cX2_goFar 193 = .ok (.aload_n 0, 1) := by decide +kernel
theorem dX2_goFar_194 : decode cX2_goFar 194 = .ok (.getfield 122, 3) := by decide +kernel
theorem dX2_goFar_197 : decode cX2_goFar 197 = .ok (.invokevirtual 130, 3) := by decide +kernel
theorem dX2_goFar_200 : decode cX2_goFar 200 = .ok (.goto 53, 3) := by decide +kernel
theorem dX2_goFar_203 : decode cX2_goFar 203 = .ok (.aload_n 0, 1) := by decide +kernel
theorem dX2_goFar_204 : decode cX2_goFar 204 = .ok (.getfield 42, 3) := by decide +kernel
theorem dX2_goFar_207 : decode cX2_goFar 207 = .ok (.iload_n 1, 1) := by decide +kernel
theorem dX2_goFar_208 : decode cX2_goFar 208 = .ok (.baload, 1) := by decide +kernel
theorem dX2_goFar_209 : decode cX2_goFar 209 = .ok (.ifCond .eq 36, 3) := by decide +kernel
theorem dX2_goFar_212 : decode cX2_goFar 212 = .ok (.aload_n 0, 1) := by decide +kernel
theorem dX2_goFar_213 : decode cX2_goFar 213 = .ok (.getfield 46, 3) := by decide +kernel
theorem dX2_goFar_216 : decode cX2_goFar 216 = .ok (.iload_n 1, 1) := by decide +kernel
theorem dX2_goFar_217 : decode cX2_goFar 217 = .ok (.iaload, 1) := by decide +kernel
theorem dX2_goFar_218 : decode cX2_goFar 218 = .ok (.iload_n 2, 1) := by decide +kernel
theorem dX2_goFar_219 : decode cX2_goFar 219 = .ok (.if_icmp .ne 26, 3) := by decide +kernel
theorem dX2_goFar_222 : decode cX2_goFar 222 = .ok (.aload_n 0, 1) := by decide +kernel
theorem dX2_goFar_223 : decode cX2_goFar 223 = .ok (.getfield 49, 3) := by decide +kernel
theorem dX2_goFar_226 : decode cX2_goFar 226 = .ok (.iload_n 1, 1) := by decide +kernel
theorem dX2_goFar_227 : decode cX2_goFar 227 = .ok (.iaload, 1) := by decide +kernel
theorem dX2_goFar_228 : decode cX2_goFar 228 = .ok (.iload_n 3, 1) := by decide +kernel
theorem dX2_goFar_229 : decode cX2_goFar 229 = .ok (.if_icmp .ne 16, 3) := by decide +kernel
theorem dX2_goFar_232 : decode cX2_goFar 232 = .ok (.aload_n 0, 1) := by decide +kernel
theorem dX2_goFar_233 : decode cX2_goFar 233 = .ok (.aload_n 0, 1) := by decide +kernel
theorem dX2_goFar_234 : decode cX2_goFar 234 = .ok (.getfield 52, 3) := by decide +kernel
theorem dX2_goFar_237 : decode cX2_goFar 237 = .ok (.iload_n 1, 1) := by decide +kernel
theorem dX2_goFar_238 : decode cX2_goFar 238 = .ok (.laload, 1) := by decide +kernel
theorem dX2_goFar_239 : decode cX2_goFar 239 = .ok (.invokevirtual 130, 3) := by decide +kernel
theorem dX2_goFar_242 : decode cX2_goFar 242 = .ok (.goto 11, 3) := by decide +kernel
theorem dX2_goFar_245 : decode cX2_goFar 245 = .ok (.aload_n 0, 1) := by decide +kernel
theorem dX2_goFar_246 : decode cX2_goFar 246 = .ok (.iload 5, 2) := by decide +kernel
theorem dX2_goFar_248 : decode cX2_goFar 248 = .ok (.iload_n 2, 1) := by decide +kernel
theorem dX2_goFar_249 : decode cX2_goFar 249 = .ok (.iload_n 3, 1) := by decide +kernel
theorem dX2_goFar_250 : decode cX2_goFar 250 = .ok (.invokevirtual 142, 3) := by decide +kernel
theorem dX2_goFar_253 : decode cX2_goFar 253 = .ok (.return_, 1) := by decide +kernel
set_option maxRecDepth 20000 in
theorem ggX2_join_X2_fails : GoodIn wsX2_join wsX2_fails := goodIn_r _ [5, 6, 7, 13, 14, 15, 16, 17, 18, 19, 20, 21, 22, 23, 24, 25, 26, 27, 28, 29, 30, 31, 32, 33, 34, 35, 36, 37, 38, 39, 40] (by decide +kernel) (by decide +kernel)
set_option maxRecDepth 20000 in
theorem gX2_join_X2_fails : GoodIn wsX2_join (wsV RX2 134 RX2 yX2_fails wsX2_fails) := goodIn_app (goodIn_of _ (by decide +kernel)) ggX2_join_X2_fails
set_option maxRecDepth 20000 in
theorem ggX2_join_X2_gives : GoodIn wsX2_join wsX2_gives := goodIn_r _ [11, 12, 7, 13, 14, 15, 16, 17, 18, 19, 20, 21, 22, 23, 24, 25, 26, 27, 28, 29, 30, 31, 32, 33, 34, 35, 36, 37, 38, 39, 40] (by decide +kernel) (by decide +kernel)
set_option maxRecDepth 20000 in
theorem gX2_join_X2_gives : GoodIn wsX2_join (wsV RX2 130 RX2 yX2_gives wsX2_gives) := goodIn_app (goodIn_of _ (by decide +kernel)) ggX2_join_X2_gives
theorem dX2_join_0 : decode cX2_join 0 = .ok (.iload_n 1, 1) := by decide +kernel
theorem dX2_join_1 : decode cX2_join 1 = .ok (.iconst 3, 1) := by decide +kernel
theorem dX2_join_2 : decode cX2_join 2 = .ok (.if_icmp .eq 8, 3) := by decide +kernel
theorem dX2_join_5 : decode cX2_join 5 = .ok (.iload_n 1, 1) := by decide +kernel
theorem dX2_join_6 : decode cX2_join 6 = .ok (.iconst 4, 1) := by decide +kernel
theorem dX2_join_7 : decode cX2_join 7 = .ok (.if_icmp .ne 17, 3) := by decide +kernel
theorem dX2_join_10 : decode cX2_join 10 = .ok (.lload 4, 2) := by decide +kernel
theorem dX2_join_12 : decode cX2_join 12 = .ok (.lconst 0, 1) := by decide +kernel
theorem dX2_join_13 : decode cX2_join 13 = .ok (.lcmp, 1) := by decide +kernel
theorem dX2_join_14 : decode cX2_join 14 = .ok (.ifCond .ne 10, 3) := by decide +kernel
theorem dX2_join_17 : decode cX2_join 17 = .ok (.aload_n 0, 1) := by decide +kernel
theorem dX2_join_18 : decode cX2_join 18 = .ok (.bipush (-3), 2) := by decide +kernel
theorem dX2_join_20 : decode cX2_join 20 = .ok (.invokevirtual 134, 3) := by decide +kernel
theorem dX2_join_23 : decode cX2_join 23 = .ok (.return_, 1) := by decide +kernel
theorem dX2_join_24 : decode cX2_join 24 = .ok (.aload_n 0, 1) := by decide +kernel
theorem dX2_join_25 : decode cX2_join 25 = .ok (.iload_n 1, 1) := by decide +kernel
theorem dX2_join_26 : decode cX2_join 26 = .ok (.ifCond .ne 10, 3) := by decide +kernel
theorem dX2_join_29 : decode cX2_join 29 = .ok (.lload_n 2, 1) := by decide +kernel
theorem dX2_join_30 : decode cX2_join 30 = .ok (.lload 4, 2) := by decide +kernel
theorem dX2_join_32 : decode cX2_join 32 = .ok (.ladd, 1) := by decide +kernel
theorem dX2_join_33 : decode cX2_join 33 = .ok (.goto 64, 3) := by decide +kernel
theorem dX2_join_36 : decode cX2_join 36 = .ok (.iload_n 1, 1) := by decide +kernel
theorem dX2_join_37 : decode cX2_join 37 = .ok (.iconst 1, 1) := by decide +kernel
theorem dX2_join_38 : decode cX2_join 38 = .ok (.if_icmp .ne 10, 3) := by decide +kernel
theorem dX2_join_41 : decode cX2_join 41 = .ok (.lload_n 2, 1) := by decide +kernel
theorem dX2_join_42 : decode cX2_join 42 = .ok (.lload 4, 2) := by decide +kernel
theorem dX2_join_44 : decode cX2_join 44 = .ok (.lsub, 1) := by decide +kernel
theorem dX2_join_45 : decode cX2_join 45 = .ok (.goto 52, 3) := by decide +kernel
theorem dX2_join_48 : decode cX2_join 48 = .ok (.iload_n 1, 1) := by decide +kernel
theorem dX2_join_49 : decode cX2_join 49 = .ok (.iconst 2, 1) := by decide +kernel
theorem dX2_join_50 : decode cX2_join 50 = .ok (.if_icmp .ne 10, 3) := by decide +kernel
theorem dX2_join_53 : decode cX2_join 53 = .ok (.lload_n 2, 1) := by decide +kernel
theorem dX2_join_54 : decode cX2_join 54 = .ok (.lload 4, 2) := by decide +kernel
theorem dX2_join_56 : decode cX2_join 56 = .ok (.lmul, 1) := by decide +kernel
theorem dX2_join_57 : decode cX2_join 57 = .ok (.goto 40, 3) := by decide +kernel
theorem dX2_join_60 : decode cX2_join 60 = .ok (.iload_n 1, 1) := by decide +kernel
theorem dX2_join_61 : decode cX2_join 61 = .ok (.iconst 3, 1) := by decide +kernel
theorem dX2_join_62 : decode cX2_join 62 = .ok (.if_icmp .ne 10, 3) := by decide +kernel
theorem dX2_join_65 : decode cX2_join 65 = .ok (.lload_n 2, 1) := by decide +kernel
theorem dX2_join_66 : decode cX2_join 66 = .ok (.lload 4, 2) := by decide +kernel
theorem dX2_join_68 : decode cX2_join 68 = .ok (.ldiv, 1) := by decide +kernel
theorem dX2_join_69 : decode cX2_join 69 = .ok (.goto 28, 3) := by decide +kernel
theorem dX2_join_72 : decode cX2_join 72 = .ok (.iload_n 1, 1) := by decide +kernel
theorem dX2_join_73 : decode cX2_join 73 = .ok (.iconst 4, 1) := by decide +kernel
theorem dX2_join_74 : decode cX2_join 74 = .ok (.if_icmp .ne 10, 3) := by decide +kernel
theorem dX2_join_77 : decode cX2_join 77 = .ok (.lload_n 2, 1) := by decide +kernel
theorem dX2_join_78 : decode cX2_join 78 = .ok (.lload 4, 2) := by decide +kernel
theorem dX2_join_80 : decode cX2_join 80 = .ok (.lrem, 1) := by decide +kernel
theorem dX2_join_81 : decode cX2_join 81 = .ok (.goto 16, 3) := by decide +kernel
theorem dX2_join_84 : decode cX2_join 84 = .ok (.lload_n 2, 1) := by decide +kernel
theorem dX2_join_85 : decode cX2_join 85 = .ok (.lload 4, 2) := by decide +kernel
theorem dX2_join_87 : decode cX2_join 87 = .ok (.lcmp, 1) := by decide +kernel
theorem dX2_join_88 : decode cX2_join 88 = .ok (.ifCond .ge 7, 3) := by decide +kernel
theorem dX2_join_91 : decode cX2_join 91 = .ok (.lload_n 2, 1) := by decide +kernel
theorem dX2_join_92 : decode cX2_join 92 = .ok (.goto 5, 3) := by decide +kernel
theorem dX2_join_95 : decode cX2_join 95 = .ok (.lload 4, 2) := by decide +kernel
theorem dX2_join_97 : decode cX2_join 97 = .ok (.invokevirtual 130, 3) := by decide +kernel
theorem dX2_join_100 : decode cX2_join 100 = .ok (.return_, 1) := by decide +kernel
set_option maxRecDepth 20000 in
theorem ggX2_fall_X2_asks : GoodIn wsX2_fall wsX2_asks := goodIn_r _ [13, 5, 1, 14, 15, 16, 12, 17, 18, 2, 3, 7, 8, 19, 20, 21, 22, 23, 24, 25, 26, 27, 28, 29, 30, 31, 32, 33, 34, 35, 36, 37, 38, 39, 40, 41, 42, 43, 44, 45, 46, 47] (by decide +kernel) (by decide +kernel)
set_option maxRecDepth 20000 in
theorem gX2_fall_X2_asks : GoodIn wsX2_fall (wsV RX2 142 RX2 yX2_asks wsX2_asks) := goodIn_app (goodIn_of _ (by decide +kernel)) ggX2_fall_X2_asks
theorem dX2_fall_0 : decode cX2_fall 0 = .ok (.aload_n 0, 1) := by decide +kernel
theorem dX2_fall_1 : decode cX2_fall 1 = .ok (.getfield 119, 3) := by decide +kernel
theorem dX2_fall_4 : decode cX2_fall 4 = .ok (.ifCond .le 116, 3) := by decide +kernel
theorem dX2_fall_7 : decode cX2_fall 7 = .ok (.aload_n 0, 1) := by decide +kernel
theorem dX2_fall_8 : decode cX2_fall 8 = .ok (.getfield 116, 3) := by decide +kernel
theorem dX2_fall_11 : decode cX2_fall 11 = .ok (.ifCond .eq 109, 3) := by decide +kernel
theorem dX2_fall_14 : decode cX2_fall 14 = .ok (.aload_n 0, 1) := by decide +kernel
theorem dX2_fall_15 : decode cX2_fall 15 = .ok (.getfield 119, 3) := by decide +kernel
theorem dX2_fall_18 : decode cX2_fall 18 = .ok (.iconst 1, 1) := by decide +kernel
theorem dX2_fall_19 : decode cX2_fall 19 = .ok (.isub, 1) := by decide +kernel
theorem dX2_fall_20 : decode cX2_fall 20 = .ok (.istore_n 1, 1) := by decide +kernel
theorem dX2_fall_21 : decode cX2_fall 21 = .ok (.aload_n 0, 1) := by decide +kernel
theorem dX2_fall_22 : decode cX2_fall 22 = .ok (.getfield 58, 3) := by decide +kernel
theorem dX2_fall_25 : decode cX2_fall 25 = .ok (.iload_n 1, 1) := by decide +kernel
theorem dX2_fall_26 : decode cX2_fall 26 = .ok (.iaload, 1) := by decide +kernel
theorem dX2_fall_27 : decode cX2_fall 27 = .ok (.istore_n 2, 1) := by decide +kernel
theorem dX2_fall_28 : decode cX2_fall 28 = .ok (.aload_n 0, 1) := by decide +kernel
theorem dX2_fall_29 : decode cX2_fall 29 = .ok (.getfield 23, 3) := by decide +kernel
theorem dX2_fall_32 : decode cX2_fall 32 = .ok (.iload_n 2, 1) := by decide +kernel
theorem dX2_fall_33 : decode cX2_fall 33 = .ok (.iaload, 1) := by decide +kernel
theorem dX2_fall_34 : decode cX2_fall 34 = .ok (.bipush 8, 2) := by decide +kernel
theorem dX2_fall_36 : decode cX2_fall 36 = .ok (.if_icmp .ne 35, 3) := by decide +kernel
theorem dX2_fall_39 : decode cX2_fall 39 = .ok (.aload_n 0, 1) := by decide +kernel
theorem dX2_fall_40 : decode cX2_fall 40 = .ok (.getfield 67, 3) := by decide +kernel
theorem dX2_fall_43 : decode cX2_fall 43 = .ok (.iload_n 1, 1) := by decide +kernel
theorem dX2_fall_44 : decode cX2_fall 44 = .ok (.iaload, 1) := by decide +kernel
theorem dX2_fall_45 : decode cX2_fall 45 = .ok (.iconst 1, 1) := by decide +kernel
theorem dX2_fall_46 : decode cX2_fall 46 = .ok (.if_icmp .ne 25, 3) := by decide +kernel
theorem dX2_fall_49 : decode cX2_fall 49 = .ok (.aload_n 0, 1) := by decide +kernel
theorem dX2_fall_50 : decode cX2_fall 50 = .ok (.getfield 116, 3) := by decide +kernel
theorem dX2_fall_53 : decode cX2_fall 53 = .ok (.bipush (-6), 2) := by decide +kernel
theorem dX2_fall_55 : decode cX2_fall 55 = .ok (.if_icmp .eq 16, 3) := by decide +kernel
theorem dX2_fall_58 : decode cX2_fall 58 = .ok (.aload_n 0, 1) := by decide +kernel
theorem dX2_fall_59 : decode cX2_fall 59 = .ok (.getfield 116, 3) := by decide +kernel
theorem dX2_fall_62 : decode cX2_fall 62 = .ok (.bipush (-7), 2) := by decide +kernel
theorem dX2_fall_64 : decode cX2_fall 64 = .ok (.if_icmp .eq 7, 3) := by decide +kernel
theorem dX2_fall_67 : decode cX2_fall 67 = .ok (.iconst 1, 1) := by decide +kernel
theorem dX2_fall_68 : decode cX2_fall 68 = .ok (.goto 4, 3) := by decide +kernel
theorem dX2_fall_71 : decode cX2_fall 71 = .ok (.iconst 0, 1) := by decide +kernel
theorem dX2_fall_72 : decode cX2_fall 72 = .ok (.istore_n 3, 1) := by decide +kernel
theorem dX2_fall_73 : decode cX2_fall 73 = .ok (.iload_n 3, 1) := by decide +kernel
theorem dX2_fall_74 : decode cX2_fall 74 = .ok (.ifCond .eq 33, 3) := by decide +kernel
theorem dX2_fall_77 : decode cX2_fall 77 = .ok (.aload_n 0, 1) := by decide +kernel
theorem dX2_fall_78 : decode cX2_fall 78 = .ok (.iconst 0, 1) := by decide +kernel
theorem dX2_fall_79 : decode cX2_fall 79 = .ok (.putfield 116, 3) := by decide +kernel
theorem dX2_fall_82 : decode cX2_fall 82 = .ok (.aload_n 0, 1) := by decide +kernel
theorem dX2_fall_83 : decode cX2_fall 83 = .ok (.aload_n 0, 1) := by decide +kernel
theorem dX2_fall_84 : decode cX2_fall 84 = .ok (.getfield 29, 3) := by decide +kernel
theorem dX2_fall_87 : decode cX2_fall 87 = .ok (.iload_n 2, 1) := by decide +kernel
theorem dX2_fall_88 : decode cX2_fall 88 = .ok (.iaload, 1) := by decide +kernel
theorem dX2_fall_89 : decode cX2_fall 89 = .ok (.aload_n 0, 1) := by decide +kernel
theorem dX2_fall_90 : decode cX2_fall 90 = .ok (.getfield 61, 3) := by decide +kernel
theorem dX2_fall_93 : decode cX2_fall 93 = .ok (.iload_n 1, 1) := by decide +kernel
theorem dX2_fall_94 : decode cX2_fall 94 = .ok (.iaload, 1) := by decide +kernel
theorem dX2_fall_95 : decode cX2_fall 95 = .ok (.aload_n 0, 1) := by decide +kernel
theorem dX2_fall_96 : decode cX2_fall 96 = .ok (.getfield 64, 3) := by decide +kernel
theorem dX2_fall_99 : decode cX2_fall 99 = .ok (.iload_n 1, 1) := by decide +kernel
theorem dX2_fall_100 : decode cX2_fall 100 = .ok (.iaload, 1) := by decide +kernel
theorem dX2_fall_101 : decode cX2_fall 101 = .ok (.invokevirtual 142, 3) := by decide +kernel
theorem dX2_fall_104 : decode cX2_fall 104 = .ok (.goto 13, 3) := by decide +kernel
theorem dX2_fall_107 : decode cX2_fall 107 = .ok (.aload_n 0, 1) := by decide +kernel
theorem dX2_fall_108 : decode cX2_fall 108 = .ok (.dup, 1) := by decide +kernel
theorem dX2_fall_109 : decode cX2_fall 109 = .ok (.getfield 119, 3) := by decide +kernel
theorem dX2_fall_112 : decode cX2_fall 112 = .ok (.iconst 1, 1) := by decide +kernel
theorem dX2_fall_113 : decode cX2_fall 113 = .ok (.isub, 1) := by decide +kernel
theorem dX2_fall_114 : decode cX2_fall 114 = .ok (.putfield 119, 3) := by decide +kernel
theorem dX2_fall_117 : decode cX2_fall 117 = .ok (.goto (-117), 3) := by decide +kernel
theorem dX2_fall_120 : decode cX2_fall 120 = .ok (.return_, 1) := by decide +kernel
set_option maxRecDepth 20000 in
theorem ggX2_ask_X2_isPlace : GoodIn wsX2_ask wsX2_isPlace := goodIn_r _ [11, 12, 13, 10, 14] (by decide +kernel) (by decide +kernel)
set_option maxRecDepth 20000 in
theorem gX2_ask_X2_isPlace : GoodIn wsX2_ask (va_wsS RX2 97 yX2_isPlace wsX2_isPlace) := goodIn_app (goodIn_of _ (by decide +kernel)) ggX2_ask_X2_isPlace
set_option maxRecDepth 20000 in
theorem ggX2_ask_X2_at : GoodIn wsX2_ask wsX2_at := goodIn_r _ [18, 2, 73, 74, 75, 76, 77, 78, 79, 80, 81, 82, 83, 84, 85, 86, 87, 88, 89, 90, 91, 92, 93, 94, 95, 96, 97, 98, 99, 100] (by decide +kernel) (by decide +kernel)
set_option maxRecDepth 20000 in
theorem gX2_ask_X2_at : GoodIn wsX2_ask (wsV RX2 101 RX2 yX2_at wsX2_at) := goodIn_app (goodIn_of _ (by decide +kernel)) ggX2_ask_X2_at
set_option maxRecDepth 20000 in
theorem ggX2_ask_X2_begin : GoodIn wsX2_ask wsX2_begin := goodIn_r _ [22, 1, 5, 4, 23, 24, 25, 26, 27, 73, 74, 75, 76, 77, 78, 79, 80, 81, 82, 83, 84, 85, 86, 87, 88, 89, 90, 91, 92, 93, 94, 95, 96, 97, 98, 99, 100] (by decide +kernel) (by decide +kernel)
set_option maxRecDepth 20000 in
theorem gX2_ask_X2_begin : GoodIn wsX2_ask (wsV RX2 126 RX2 yX2_begin wsX2_begin) := goodIn_app (goodIn_of _ (by decide +kernel)) ggX2_ask_X2_begin
set_option maxRecDepth 20000 in
theorem ggX2_ask_X2_go : GoodIn wsX2_ask wsX2_go := goodIn_r _ [31, 4, 23, 24, 25, 26, 32, 33, 34, 35, 36, 37, 38, 39, 40, 10, 41, 6, 12, 13, 14, 42, 43, 44, 45, 5, 46, 47, 48, 49, 50, 27, 51, 52, 53, 54, 55, 19, 20, 21, 22, 1, 56, 57, 58, 59, 60, 61, 62, 63, 64, 65, 66, 67, 68, 15, 16, 17, 18, 2, 73, 74, 75, 76, 77, 78, 79, 80, 81, 82, 83, 84, 85, 86, 87, 88, 89, 90, 91, 92, 93, 94, 95, 96, 97, 98, 99, 100] (by decide +kernel) (by decide +kernel)
set_option maxRecDepth 20000 in
theorem gX2_ask_X2_go : GoodIn wsX2_ask (wsV RX2 153 RX2 yX2_go wsX2_go) := goodIn_app (goodIn_of _ (by decide +kernel)) ggX2_ask_X2_go
set_option maxRecDepth 20000 in
theorem ggX2_ask_X2_fall : GoodIn wsX2_ask wsX2_fall := goodIn_r _ [72, 4, 5, 23, 34, 26, 50, 24, 25, 52, 53, 54, 10, 55, 19, 20, 21, 22, 1, 27, 73, 74, 75, 76, 77, 78, 79, 80, 81, 82, 83, 84, 85, 86, 87, 88, 89, 90, 91, 92, 93, 94, 95, 96, 97, 98, 99, 100] (by decide +kernel) (by decide +kernel)
set_option maxRecDepth 20000 in
theorem gX2_ask_X2_fall : GoodIn wsX2_ask (wsV RX2 156 RX2 yX2_fall wsX2_fall) := goodIn_app (goodIn_of _ (by decide +kernel)) ggX2_ask_X2_fall
theorem dX2_ask_0 : decode cX2_ask 0 = .ok (.aload_n 0, 1) := by decide +kernel
theorem dX2_ask_1 : decode cX2_ask 1 = .ok (.iconst 0, 1) := by decide +kernel
theorem dX2_ask_2 : decode cX2_ask 2 = .ok (.putfield 91, 3) := by decide +kernel
theorem dX2_ask_5 : decode cX2_ask 5 = .ok (.aload_n 0, 1) := by decide +kernel
theorem dX2_ask_6 : decode cX2_ask 6 = .ok (.iload_n 1, 1) := by decide +kernel
theorem dX2_ask_7 : decode cX2_ask 7 = .ok (.invokestatic 97, 3) := by decide +kernel
theorem dX2_ask_10 : decode cX2_ask 10 = .ok (.ifCond .ne 7, 3) := by decide +kernel
theorem dX2_ask_13 : decode cX2_ask 13 = .ok (.iconst (-1), 1) := by decide +kernel
theorem dX2_ask_14 : decode cX2_ask 14 = .ok (.goto 18, 3) := by decide +kernel
theorem dX2_ask_17 : decode cX2_ask 17 = .ok (.aload_n 0, 1) := by decide +kernel
theorem dX2_ask_18 : decode cX2_ask 18 = .ok (.getfield 55, 3) := by decide +kernel
theorem dX2_ask_21 : decode cX2_ask 21 = .ok (.iload_n 1, 1) := by decide +kernel
theorem dX2_ask_22 : decode cX2_ask 22 = .ok (.iaload, 1) := by decide +kernel
theorem dX2_ask_23 : decode cX2_ask 23 = .ok (.ifCond .ne 8, 3) := by decide +kernel
theorem dX2_ask_26 : decode cX2_ask 26 = .ok (.bipush (-2), 2) := by decide +kernel
theorem dX2_ask_28 : decode cX2_ask 28 = .ok (.goto 4, 3) := by decide +kernel
theorem dX2_ask_31 : decode cX2_ask 31 = .ok (.iconst 0, 1) := by decide +kernel
theorem dX2_ask_32 : decode cX2_ask 32 = .ok (.putfield 88, 3) := by decide +kernel
theorem dX2_ask_35 : decode cX2_ask 35 = .ok (.aload_n 0, 1) := by decide +kernel
theorem dX2_ask_36 : decode cX2_ask 36 = .ok (.getfield 88, 3) := by decide +kernel
theorem dX2_ask_39 : decode cX2_ask 39 = .ok (.ifCond .ge 5, 3) := by decide +kernel
theorem dX2_ask_42 : decode cX2_ask 42 = .ok (.lconst 0, 1) := by decide +kernel
theorem dX2_ask_43 : decode cX2_ask 43 = .ok (.lreturn, 1) := by decide +kernel
theorem dX2_ask_44 : decode cX2_ask 44 = .ok (.aload_n 0, 1) := by decide +kernel
theorem dX2_ask_45 : decode cX2_ask 45 = .ok (.iconst 0, 1) := by decide +kernel
theorem dX2_ask_46 : decode cX2_ask 46 = .ok (.putfield 119, 3) := by decide +kernel
theorem dX2_ask_49 : decode cX2_ask 49 = .ok (.aload_n 0, 1) := by decide +kernel
theorem dX2_ask_50 : decode cX2_ask 50 = .ok (.iconst 0, 1) := by decide +kernel
theorem dX2_ask_51 : decode cX2_ask 51 = .ok (.putfield 116, 3) := by decide +kernel
theorem dX2_ask_54 : decode cX2_ask 54 = .ok (.aload_n 0, 1) := by decide +kernel
theorem dX2_ask_55 : decode cX2_ask 55 = .ok (.lconst 0, 1) := by decide +kernel
theorem dX2_ask_56 : decode cX2_ask 56 = .ok (.putfield 122, 3) := by decide +kernel
theorem dX2_ask_59 : decode cX2_ask 59 = .ok (.aload_n 0, 1) := by decide +kernel
theorem dX2_ask_60 : decode cX2_ask 60 = .ok (.aload_n 0, 1) := by decide +kernel
theorem dX2_ask_61 : decode cX2_ask 61 = .ok (.iload_n 1, 1) := by decide +kernel
theorem dX2_ask_62 : decode cX2_ask 62 = .ok (.invokevirtual 101, 3) := by decide +kernel
theorem dX2_ask_65 : decode cX2_ask 65 = .ok (.iload_n 2, 1) := by decide +kernel
theorem dX2_ask_66 : decode cX2_ask 66 = .ok (.iload_n 3, 1) := by decide +kernel
theorem dX2_ask_67 : decode cX2_ask 67 = .ok (.invokevirtual 126, 3) := by decide +kernel
theorem dX2_ask_70 : decode cX2_ask 70 = .ok (.aload_n 0, 1) := by decide +kernel
theorem dX2_ask_71 : decode cX2_ask 71 = .ok (.getfield 119, 3) := by decide +kernel
theorem dX2_ask_74 : decode cX2_ask 74 = .ok (.ifCond .le 21, 3) := by decide +kernel
theorem dX2_ask_77 : decode cX2_ask 77 = .ok (.aload_n 0, 1) := by decide +kernel
theorem dX2_ask_78 : decode cX2_ask 78 = .ok (.invokevirtual 153, 3) := by decide +kernel
theorem dX2_ask_81 : decode cX2_ask 81 = .ok (.aload_n 0, 1) := by decide +kernel
theorem dX2_ask_82 : decode cX2_ask 82 = .ok (.getfield 116, 3) := by decide +kernel
theorem dX2_ask_85 : decode cX2_ask 85 = .ok (.ifCond .eq (-15), 3) := by decide +kernel
theorem dX2_ask_88 : decode cX2_ask 88 = .ok (.aload_n 0, 1) := by decide +kernel
theorem dX2_ask_89 : decode cX2_ask 89 = .ok (.invokevirtual 156, 3) := by decide +kernel
theorem dX2_ask_92 : decode cX2_ask 92 = .ok (.goto (-22), 3) := by decide +kernel
theorem dX2_ask_95 : decode cX2_ask 95 = .ok (.aload_n 0, 1) := by decide +kernel
theorem dX2_ask_96 : decode cX2_ask 96 = .ok (.getfield 116, 3) := by decide +kernel
theorem dX2_ask_99 : decode cX2_ask 99 = .ok (.ifCond .eq 23, 3) := by decide +kernel
theorem dX2_ask_102 : decode cX2_ask 102 = .ok (.aload_n 0, 1) := by decide +kernel
theorem dX2_ask_103 : decode cX2_ask 103 = .ok (.aload_n 0, 1) := by decide +kernel
theorem dX2_ask_104 : decode cX2_ask 104 = .ok (.getfield 116, 3) := by decide +kernel
theorem dX2_ask_107 : decode cX2_ask 107 = .ok (.putfield 88, 3) := by decide +kernel
theorem dX2_ask_110 : decode cX2_ask 110 = .ok (.aload_n 0, 1) := by decide +kernel
theorem dX2_ask_111 : decode cX2_ask 111 = .ok (.dup, 1) := by decide +kernel
theorem dX2_ask_112 : decode cX2_ask 112 = .ok (.getfield 94, 3) := by decide +kernel
theorem dX2_ask_115 : decode cX2_ask 115 = .ok (.iconst 1, 1) := by decide +kernel
theorem dX2_ask_116 : decode cX2_ask 116 = .ok (.iadd, 1) := by decide +kernel
theorem dX2_ask_117 : decode cX2_ask 117 = .ok (.putfield 94, 3) := by decide +kernel
theorem dX2_ask_120 : decode cX2_ask 120 = .ok (.lconst 0, 1) := by decide +kernel
theorem dX2_ask_121 : decode cX2_ask 121 = .ok (.lreturn, 1) := by decide +kernel
theorem dX2_ask_122 : decode cX2_ask 122 = .ok (.aload_n 0, 1) := by decide +kernel
theorem dX2_ask_123 : decode cX2_ask 123 = .ok (.getfield 122, 3) := by decide +kernel
theorem dX2_ask_126 : decode cX2_ask 126 = .ok (.lreturn, 1) := by decide +kernel
theorem dX2_failed_0 : decode cX2_failed 0 = .ok (.aload_n 0, 1) := by decide +kernel
theorem dX2_failed_1 : decode cX2_failed 1 = .ok (.getfield 88, 3) := by decide +kernel
theorem dX2_failed_4 : decode cX2_failed 4 = .ok (.ireturn, 1) := by decide +kernel
set_option maxRecDepth 20000 in
theorem ggX2_same_X2_isPlace : GoodIn wsX2_same wsX2_isPlace := goodIn_r _ [5, 6, 7, 4, 8] (by decide +kernel) (by decide +kernel)
set_option maxRecDepth 20000 in
theorem gX2_same_X2_isPlace : GoodIn wsX2_same (va_wsS RX2 97 yX2_isPlace wsX2_isPlace) := goodIn_app (goodIn_of _ (by decide +kernel)) ggX2_same_X2_isPlace
theorem dX2_same_0 : decode cX2_same 0 = .ok (.iload_n 1, 1) := by decide +kernel
theorem dX2_same_1 : decode cX2_same 1 = .ok (.invokestatic 97, 3) := by decide +kernel
theorem dX2_same_4 : decode cX2_same 4 = .ok (.ifCond .eq 10, 3) := by decide +kernel
theorem dX2_same_7 : decode cX2_same 7 = .ok (.iload_n 2, 1) := by decide +kernel
theorem dX2_same_8 : decode cX2_same 8 = .ok (.invokestatic 97, 3) := by decide +kernel
theorem dX2_same_11 : decode cX2_same 11 = .ok (.ifCond .ne 5, 3) := by decide +kernel
theorem dX2_same_14 : decode cX2_same 14 = .ok (.iconst (-1), 1) := by decide +kernel
theorem dX2_same_15 : decode cX2_same 15 = .ok (.ireturn, 1) := by decide +kernel
theorem dX2_same_16 : decode cX2_same 16 = .ok (.aload_n 0, 1) := by decide +kernel
theorem dX2_same_17 : decode cX2_same 17 = .ok (.getfield 55, 3) := by decide +kernel
theorem dX2_same_20 : decode cX2_same 20 = .ok (.iload_n 1, 1) := by decide +kernel
theorem dX2_same_21 : decode cX2_same 21 = .ok (.iaload, 1) := by decide +kernel
theorem dX2_same_22 : decode cX2_same 22 = .ok (.ifCond .le 22, 3) := by decide +kernel
theorem dX2_same_25 : decode cX2_same 25 = .ok (.aload_n 0, 1) := by decide +kernel
theorem dX2_same_26 : decode cX2_same 26 = .ok (.getfield 55, 3) := by decide +kernel
theorem dX2_same_29 : decode cX2_same 29 = .ok (.iload_n 1, 1) := by decide +kernel
theorem dX2_same_30 : decode cX2_same 30 = .ok (.iaload, 1) := by decide +kernel
theorem dX2_same_31 : decode cX2_same 31 = .ok (.aload_n 0, 1) := by decide +kernel
theorem dX2_same_32 : decode cX2_same 32 = .ok (.getfield 55, 3) := by decide +kernel
theorem dX2_same_35 : decode cX2_same 35 = .ok (.iload_n 2, 1) := by decide +kernel
theorem dX2_same_36 : decode cX2_same 36 = .ok (.iaload, 1) := by decide +kernel
theorem dX2_same_37 : decode cX2_same 37 = .ok (.if_icmp .ne 7, 3) := by decide +kernel
theorem dX2_same_40 : decode cX2_same 40 = .ok (.iconst 1, 1) := by decide +kernel
theorem dX2_same_41 : decode cX2_same 41 = .ok (.goto 4, 3) := by decide +kernel
theorem dX2_same_44 : decode cX2_same 44 = .ok (.iconst 0, 1) := by decide +kernel
theorem dX2_same_45 : decode cX2_same 45 = .ok (.ireturn, 1) := by decide +kernel
set_option maxRecDepth 20000 in
theorem ggX2_count_X2_isPlace : GoodIn wsX2_count wsX2_isPlace := goodIn_r _ [7, 8, 9, 6, 10] (by decide +kernel) (by decide +kernel)
set_option maxRecDepth 20000 in
theorem gX2_count_X2_isPlace : GoodIn wsX2_count (va_wsS RX2 97 yX2_isPlace wsX2_isPlace) := goodIn_app (goodIn_of _ (by decide +kernel)) ggX2_count_X2_isPlace
set_option maxRecDepth 20000 in
theorem ggX2_count_X2_at : GoodIn wsX2_count wsX2_at := goodIn_r _ [14, 1, 15, 16, 17, 18, 19, 20, 21, 22, 23, 24, 25, 26, 27, 28, 29, 30, 31, 32, 33, 34, 35, 36, 37, 38, 39, 40, 41, 42] (by decide +kernel) (by decide +kernel)
set_option maxRecDepth 20000 in
theorem gX2_count_X2_at : GoodIn wsX2_count (wsV RX2 101 RX2 yX2_at wsX2_at) := goodIn_app (goodIn_of _ (by decide +kernel)) ggX2_count_X2_at
theorem dX2_count_0 : decode cX2_count 0 = .ok (.iload_n 1, 1) := by decide +kernel
theorem dX2_count_1 : decode cX2_count 1 = .ok (.invokestatic 97, 3) := by decide +kernel
theorem dX2_count_4 : decode cX2_count 4 = .ok (.ifCond .ne 5, 3) := by decide +kernel
theorem dX2_count_7 : decode cX2_count 7 = .ok (.iconst (-1), 1) := by decide +kernel
theorem dX2_count_8 : decode cX2_count 8 = .ok (.ireturn, 1) := by decide +kernel
theorem dX2_count_9 : decode cX2_count 9 = .ok (.aload_n 0, 1) := by decide +kernel
theorem dX2_count_10 : decode cX2_count 10 = .ok (.getfield 55, 3) := by decide +kernel
theorem dX2_count_13 : decode cX2_count 13 = .ok (.iload_n 1, 1) := by decide +kernel
theorem dX2_count_14 : decode cX2_count 14 = .ok (.iaload, 1) := by decide +kernel
theorem dX2_count_15 : decode cX2_count 15 = .ok (.ifCond .eq 18, 3) := by decide +kernel
theorem dX2_count_18 : decode cX2_count 18 = .ok (.aload_n 0, 1) := by decide +kernel
theorem dX2_count_19 : decode cX2_count 19 = .ok (.getfield 23, 3) := by decide +kernel
theorem dX2_count_22 : decode cX2_count 22 = .ok (.aload_n 0, 1) := by decide +kernel
theorem dX2_count_23 : decode cX2_count 23 = .ok (.iload_n 1, 1) := by decide +kernel
theorem dX2_count_24 : decode cX2_count 24 = .ok (.invokevirtual 101, 3) := by decide +kernel
theorem dX2_count_27 : decode cX2_count 27 = .ok (.iaload, 1) := by decide +kernel
theorem dX2_count_28 : decode cX2_count 28 = .ok (.bipush 11, 2) := by decide +kernel
theorem dX2_count_30 : decode cX2_count 30 = .ok (.if_icmp .eq 8, 3) := by decide +kernel
theorem dX2_count_33 : decode cX2_count 33 = .ok (.bipush (-2), 2) := by decide +kernel
theorem dX2_count_35 : decode cX2_count 35 = .ok (.goto 13, 3) := by decide +kernel
theorem dX2_count_38 : decode cX2_count 38 = .ok (.aload_n 0, 1) := by decide +kernel
theorem dX2_count_39 : decode cX2_count 39 = .ok (.getfield 39, 3) := by decide +kernel
theorem dX2_count_42 : decode cX2_count 42 = .ok (.aload_n 0, 1) := by decide +kernel
theorem dX2_count_43 : decode cX2_count 43 = .ok (.iload_n 1, 1) := by decide +kernel
theorem dX2_count_44 : decode cX2_count 44 = .ok (.invokevirtual 101, 3) := by decide +kernel
theorem dX2_count_47 : decode cX2_count 47 = .ok (.iaload, 1) := by decide +kernel
theorem dX2_count_48 : decode cX2_count 48 = .ok (.ireturn, 1) := by decide +kernel
theorem dX2_told_0 : decode cX2_told 0 = .ok (.iconst 0, 1) := by decide +kernel
theorem dX2_told_1 : decode cX2_told 1 = .ok (.istore_n 2, 1) := by decide +kernel
theorem dX2_told_2 : decode cX2_told 2 = .ok (.iconst 0, 1) := by decide +kernel
theorem dX2_told_3 : decode cX2_told 3 = .ok (.istore_n 3, 1) := by decide +kernel
theorem dX2_told_4 : decode cX2_told 4 = .ok (.iload_n 3, 1) := by decide +kernel
theorem dX2_told_5 : decode cX2_told 5 = .ok (.bipush 16, 2) := by decide +kernel
theorem dX2_told_7 : decode cX2_told 7 = .ok (.if_icmp .ge 26, 3) := by decide +kernel
theorem dX2_told_10 : decode cX2_told 10 = .ok (.iload_n 2, 1) := by decide +kernel
theorem dX2_told_11 : decode cX2_told 11 = .ok (.aload_n 0, 1) := by decide +kernel
theorem dX2_told_12 : decode cX2_told 12 = .ok (.getfield 55, 3) := by decide +kernel
theorem dX2_told_15 : decode cX2_told 15 = .ok (.iload_n 3, 1) := by decide +kernel
theorem dX2_told_16 : decode cX2_told 16 = .ok (.iaload, 1) := by decide +kernel
theorem dX2_told_17 : decode cX2_told 17 = .ok (.ifCond .le 7, 3) := by decide +kernel
theorem dX2_told_20 : decode cX2_told 20 = .ok (.iconst 1, 1) := by decide +kernel
theorem dX2_told_21 : decode cX2_told 21 = .ok (.goto 4, 3) := by decide +kernel
theorem dX2_told_24 : decode cX2_told 24 = .ok (.iconst 0, 1) := by decide +kernel
theorem dX2_told_25 : decode cX2_told 25 = .ok (.iadd, 1) := by decide +kernel
theorem dX2_told_26 : decode cX2_told 26 = .ok (.istore_n 2, 1) := by decide +kernel
theorem dX2_told_27 : decode cX2_told 27 = .ok (.iinc 3 1, 3) := by decide +kernel
theorem dX2_told_30 : decode cX2_told 30 = .ok (.goto (-26), 3) := by decide +kernel
theorem dX2_told_33 : decode cX2_told 33 = .ok (.iload_n 1, 1) := by decide +kernel
theorem dX2_told_34 : decode cX2_told 34 = .ok (.ifCond .ne 10, 3) := by decide +kernel
theorem dX2_told_37 : decode cX2_told 37 = .ok (.aload_n 0, 1) := by decide +kernel
theorem dX2_told_38 : decode cX2_told 38 = .ok (.getfield 81, 3) := by decide +kernel
theorem dX2_told_41 : decode cX2_told 41 = .ok (.goto 37, 3) := by decide +kernel
theorem dX2_told_44 : decode cX2_told 44 = .ok (.iload_n 1, 1) := by decide +kernel
theorem dX2_told_45 : decode cX2_told 45 = .ok (.iconst 1, 1) := by decide +kernel
theorem dX2_told_46 : decode cX2_told 46 = .ok (.if_icmp .ne 10, 3) := by decide +kernel
theorem dX2_told_49 : decode cX2_told 49 = .ok (.aload_n 0, 1) := by decide +kernel
theorem dX2_told_50 : decode cX2_told 50 = .ok (.getfield 91, 3) := by decide +kernel
theorem dX2_told_53 : decode cX2_told 53 = .ok (.goto 25, 3) := by decide +kernel
theorem dX2_told_56 : decode cX2_told 56 = .ok (.iload_n 1, 1) := by decide +kernel
theorem dX2_told_57 : decode cX2_told 57 = .ok (.iconst 2, 1) := by decide +kernel
theorem dX2_told_58 : decode cX2_told 58 = .ok (.if_icmp .ne 10, 3) := by decide +kernel
theorem dX2_told_61 : decode cX2_told 61 = .ok (.aload_n 0, 1) := by decide +kernel
theorem dX2_told_62 : decode cX2_told 62 = .ok (.getfield 94, 3) := by decide +kernel
theorem dX2_told_65 : decode cX2_told 65 = .ok (.goto 13, 3) := by decide +kernel
theorem dX2_told_68 : decode cX2_told 68 = .ok (.iload_n 1, 1) := by decide +kernel
theorem dX2_told_69 : decode cX2_told 69 = .ok (.iconst 3, 1) := by decide +kernel
theorem dX2_told_70 : decode cX2_told 70 = .ok (.if_icmp .ne 7, 3) := by decide +kernel
theorem dX2_told_73 : decode cX2_told 73 = .ok (.iload_n 2, 1) := by decide +kernel
theorem dX2_told_74 : decode cX2_told 74 = .ok (.goto 4, 3) := by decide +kernel
theorem dX2_told_77 : decode cX2_told 77 = .ok (.iconst (-1), 1) := by decide +kernel
theorem dX2_told_78 : decode cX2_told 78 = .ok (.ireturn, 1) := by decide +kernel
theorem dJ9_min_f86c9_0 : decode cJ9_min_f86c9 0 = .ok (.lload_n 0, 1) := by decide +kernel
theorem dJ9_min_f86c9_1 : decode cJ9_min_f86c9 1 = .ok (.lload_n 2, 1) := by decide +kernel
theorem dJ9_min_f86c9_2 : decode cJ9_min_f86c9 2 = .ok (.lcmp, 1) := by decide +kernel
theorem dJ9_min_f86c9_3 : decode cJ9_min_f86c9 3 = .ok (.ifCond .gt 7, 3) := by decide +kernel
theorem dJ9_min_f86c9_6 : decode cJ9_min_f86c9 6 = .ok (.lload_n 0, 1) := by decide +kernel
theorem dJ9_min_f86c9_7 : decode cJ9_min_f86c9 7 = .ok (.goto 4, 3) := by decide +kernel
theorem dJ9_min_f86c9_10 : decode cJ9_min_f86c9 10 = .ok (.lload_n 2, 1) := by decide +kernel
theorem dJ9_min_f86c9_11 : decode cJ9_min_f86c9 11 = .ok (.lreturn, 1) := by decide +kernel
