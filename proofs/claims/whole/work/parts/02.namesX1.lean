theorem dX0_init_0 : decode cX0_init 0 = .ok (.aload_n 0, 1) := by decide +kernel
theorem dX0_init_1 : decode cX0_init 1 = .ok (.invokespecial 1, 3) := by decide +kernel
theorem dX0_init_4 : decode cX0_init 4 = .ok (.aload_n 0, 1) := by decide +kernel
theorem dX0_init_5 : decode cX0_init 5 = .ok (.iload_n 1, 1) := by decide +kernel
theorem dX0_init_6 : decode cX0_init 6 = .ok (.putfield 7, 3) := by decide +kernel
theorem dX0_init_9 : decode cX0_init 9 = .ok (.aload_n 0, 1) := by decide +kernel
theorem dX0_init_10 : decode cX0_init 10 = .ok (.iload_n 2, 1) := by decide +kernel
theorem dX0_init_11 : decode cX0_init 11 = .ok (.putfield 13, 3) := by decide +kernel
theorem dX0_init_14 : decode cX0_init 14 = .ok (.aload_n 0, 1) := by decide +kernel
theorem dX0_init_15 : decode cX0_init 15 = .ok (.aload_n 3, 1) := by decide +kernel
theorem dX0_init_16 : decode cX0_init 16 = .ok (.putfield 16, 3) := by decide +kernel
theorem dX0_init_19 : decode cX0_init 19 = .ok (.aload_n 0, 1) := by decide +kernel
theorem dX0_init_20 : decode cX0_init 20 = .ok (.aconst_null, 1) := by decide +kernel
theorem dX0_init_21 : decode cX0_init 21 = .ok (.putfield 20, 3) := by decide +kernel
theorem dX0_init_24 : decode cX0_init 24 = .ok (.aload_n 0, 1) := by decide +kernel
theorem dX0_init_25 : decode cX0_init 25 = .ok (.aconst_null, 1) := by decide +kernel
theorem dX0_init_26 : decode cX0_init 26 = .ok (.putfield 24, 3) := by decide +kernel
theorem dX0_init_29 : decode cX0_init 29 = .ok (.aload_n 0, 1) := by decide +kernel
theorem dX0_init_30 : decode cX0_init 30 = .ok (.aconst_null, 1) := by decide +kernel
theorem dX0_init_31 : decode cX0_init 31 = .ok (.putfield 27, 3) := by decide +kernel
theorem dX0_init_34 : decode cX0_init 34 = .ok (.return_, 1) := by decide +kernel
theorem dX0_init__0 : decode cX0_init_ 0 = .ok (.aload_n 0, 1) := by decide +kernel
theorem dX0_init__1 : decode cX0_init_ 1 = .ok (.invokespecial 1, 3) := by decide +kernel
theorem dX0_init__4 : decode cX0_init_ 4 = .ok (.aload_n 0, 1) := by decide +kernel
theorem dX0_init__5 : decode cX0_init_ 5 = .ok (.iload_n 1, 1) := by decide +kernel
theorem dX0_init__6 : decode cX0_init_ 6 = .ok (.putfield 7, 3) := by decide +kernel
theorem dX0_init__9 : decode cX0_init_ 9 = .ok (.aload_n 0, 1) := by decide +kernel
theorem dX0_init__10 : decode cX0_init_ 10 = .ok (.iload_n 2, 1) := by decide +kernel
theorem dX0_init__11 : decode cX0_init_ 11 = .ok (.putfield 13, 3) := by decide +kernel
theorem dX0_init__14 : decode cX0_init_ 14 = .ok (.aload_n 0, 1) := by decide +kernel
theorem dX0_init__15 : decode cX0_init_ 15 = .ok (.aconst_null, 1) := by decide +kernel
theorem dX0_init__16 : decode cX0_init_ 16 = .ok (.putfield 16, 3) := by decide +kernel
theorem dX0_init__19 : decode cX0_init_ 19 = .ok (.aload_n 0, 1) := by decide +kernel
theorem dX0_init__20 : decode cX0_init_ 20 = .ok (.aload_n 3, 1) := by decide +kernel
theorem dX0_init__21 : decode cX0_init_ 21 = .ok (.putfield 20, 3) := by decide +kernel
theorem dX0_init__24 : decode cX0_init_ 24 = .ok (.aload_n 0, 1) := by decide +kernel
theorem dX0_init__25 : decode cX0_init_ 25 = .ok (.aload 4, 2) := by decide +kernel
theorem dX0_init__27 : decode cX0_init_ 27 = .ok (.putfield 24, 3) := by decide +kernel
theorem dX0_init__30 : decode cX0_init_ 30 = .ok (.aload_n 0, 1) := by decide +kernel
theorem dX0_init__31 : decode cX0_init_ 31 = .ok (.aload 5, 2) := by decide +kernel
theorem dX0_init__33 : decode cX0_init_ 33 = .ok (.putfield 27, 3) := by decide +kernel
theorem dX0_init__36 : decode cX0_init_ 36 = .ok (.return_, 1) := by decide +kernel
theorem dX1_init_0 : decode cX1_init 0 = .ok (.aload_n 0, 1) := by decide +kernel
theorem dX1_init_1 : decode cX1_init 1 = .ok (.invokespecial 1, 3) := by decide +kernel
theorem dX1_init_4 : decode cX1_init 4 = .ok (.aload_n 0, 1) := by decide +kernel
theorem dX1_init_5 : decode cX1_init 5 = .ok (.bipush 8, 2) := by decide +kernel
theorem dX1_init_7 : decode cX1_init 7 = .ok (.newarray .int, 2) := by decide +kernel
theorem dX1_init_9 : decode cX1_init 9 = .ok (.putfield 9, 3) := by decide +kernel
theorem dX1_init_12 : decode cX1_init 12 = .ok (.aload_n 0, 1) := by decide +kernel
theorem dX1_init_13 : decode cX1_init 13 = .ok (.iconst 4, 1) := by decide +kernel
theorem dX1_init_14 : decode cX1_init 14 = .ok (.iconst 0, 1) := by decide +kernel
theorem dX1_init_15 : decode cX1_init 15 = .ok (.multianewarray 13 2, 4) := by decide +kernel
theorem dX1_init_19 : decode cX1_init 19 = .ok (.putfield 15, 3) := by decide +kernel
theorem dX1_init_22 : decode cX1_init 22 = .ok (.aload_n 0, 1) := by decide +kernel
theorem dX1_init_23 : decode cX1_init 23 = .ok (.bipush 16, 2) := by decide +kernel
theorem dX1_init_25 : decode cX1_init 25 = .ok (.anewarray 18, 3) := by decide +kernel
theorem dX1_init_28 : decode cX1_init 28 = .ok (.putfield 20, 3) := by decide +kernel
theorem dX1_init_31 : decode cX1_init 31 = .ok (.return_, 1) := by decide +kernel
set_option maxRecDepth 20000 in
theorem ggX1_rate_X1_isBelow : GoodIn wsX1_rate wsX1_isBelow := goodIn_r _ [5] (by decide +kernel) (by decide +kernel)
set_option maxRecDepth 20000 in
theorem gX1_rate_X1_isBelow : GoodIn wsX1_rate (va_wsS RX1 24 yX1_isBelow wsX1_isBelow) := goodIn_app (goodIn_of _ (by decide +kernel)) ggX1_rate_X1_isBelow
theorem dX1_rate_0 : decode cX1_rate 0 = .ok (.iload_n 1, 1) := by decide +kernel
theorem dX1_rate_1 : decode cX1_rate 1 = .ok (.bipush 8, 2) := by decide +kernel
theorem dX1_rate_3 : decode cX1_rate 3 = .ok (.invokestatic 24, 3) := by decide +kernel
theorem dX1_rate_6 : decode cX1_rate 6 = .ok (.ifCond .ne 5, 3) := by decide +kernel
theorem dX1_rate_9 : decode cX1_rate 9 = .ok (.iconst (-1), 1) := by decide +kernel
theorem dX1_rate_10 : decode cX1_rate 10 = .ok (.ireturn, 1) := by decide +kernel
theorem dX1_rate_11 : decode cX1_rate 11 = .ok (.aload_n 0, 1) := by decide +kernel
theorem dX1_rate_12 : decode cX1_rate 12 = .ok (.getfield 9, 3) := by decide +kernel
theorem dX1_rate_15 : decode cX1_rate 15 = .ok (.iload_n 1, 1) := by decide +kernel
theorem dX1_rate_16 : decode cX1_rate 16 = .ok (.iload_n 2, 1) := by decide +kernel
theorem dX1_rate_17 : decode cX1_rate 17 = .ok (.iastore, 1) := by decide +kernel
theorem dX1_rate_18 : decode cX1_rate 18 = .ok (.iconst 1, 1) := by decide +kernel
theorem dX1_rate_19 : decode cX1_rate 19 = .ok (.ireturn, 1) := by decide +kernel
set_option maxRecDepth 20000 in
theorem ggX1_fresh_X1_isBelow : GoodIn wsX1_fresh wsX1_isBelow := goodIn_r _ [6] (by decide +kernel) (by decide +kernel)
set_option maxRecDepth 20000 in
theorem gX1_fresh_X1_isBelow : GoodIn wsX1_fresh (va_wsS RX1 24 yX1_isBelow wsX1_isBelow) := goodIn_app (goodIn_of _ (by decide +kernel)) ggX1_fresh_X1_isBelow
theorem dX1_fresh_0 : decode cX1_fresh 0 = .ok (.iload_n 1, 1) := by decide +kernel
theorem dX1_fresh_1 : decode cX1_fresh 1 = .ok (.iconst 4, 1) := by decide +kernel
theorem dX1_fresh_2 : decode cX1_fresh 2 = .ok (.invokestatic 24, 3) := by decide +kernel
theorem dX1_fresh_5 : decode cX1_fresh 5 = .ok (.ifCond .eq 13, 3) := by decide +kernel
theorem dX1_fresh_8 : decode cX1_fresh 8 = .ok (.iload_n 2, 1) := by decide +kernel
theorem dX1_fresh_9 : decode cX1_fresh 9 = .ok (.ifCond .lt 9, 3) := by decide +kernel
theorem dX1_fresh_12 : decode cX1_fresh 12 = .ok (.iload_n 2, 1) := by decide +kernel
theorem dX1_fresh_13 : decode cX1_fresh 13 = .ok (.bipush 8, 2) := by decide +kernel
theorem dX1_fresh_15 : decode cX1_fresh 15 = .ok (.if_icmp .le 5, 3) := by decide +kernel
theorem dX1_fresh_18 : decode cX1_fresh 18 = .ok (.iconst (-1), 1) := by decide +kernel
theorem dX1_fresh_19 : decode cX1_fresh 19 = .ok (.ireturn, 1) := by decide +kernel
theorem dX1_fresh_20 : decode cX1_fresh 20 = .ok (.aload_n 0, 1) := by decide +kernel
theorem dX1_fresh_21 : decode cX1_fresh 21 = .ok (.getfield 15, 3) := by decide +kernel
theorem dX1_fresh_24 : decode cX1_fresh 24 = .ok (.iload_n 1, 1) := by decide +kernel
theorem dX1_fresh_25 : decode cX1_fresh 25 = .ok (.iload_n 2, 1) := by decide +kernel
theorem dX1_fresh_26 : decode cX1_fresh 26 = .ok (.newarray .int, 2) := by decide +kernel
theorem dX1_fresh_28 : decode cX1_fresh 28 = .ok (.aastore, 1) := by decide +kernel
theorem dX1_fresh_29 : decode cX1_fresh 29 = .ok (.iconst 1, 1) := by decide +kernel
theorem dX1_fresh_30 : decode cX1_fresh 30 = .ok (.ireturn, 1) := by decide +kernel
set_option maxRecDepth 20000 in
theorem ggX1_book_X1_isBelow : GoodIn wsX1_book wsX1_isBelow := goodIn_r _ [5] (by decide +kernel) (by decide +kernel)
set_option maxRecDepth 20000 in
theorem gX1_book_X1_isBelow : GoodIn wsX1_book (va_wsS RX1 24 yX1_isBelow wsX1_isBelow) := goodIn_app (goodIn_of _ (by decide +kernel)) ggX1_book_X1_isBelow
theorem dX1_book_0 : decode cX1_book 0 = .ok (.iload_n 1, 1) := by decide +kernel
theorem dX1_book_1 : decode cX1_book 1 = .ok (.iconst 4, 1) := by decide +kernel
theorem dX1_book_2 : decode cX1_book 2 = .ok (.invokestatic 24, 3) := by decide +kernel
theorem dX1_book_5 : decode cX1_book 5 = .ok (.ifCond .eq 17, 3) := by decide +kernel
theorem dX1_book_8 : decode cX1_book 8 = .ok (.iload_n 2, 1) := by decide +kernel
theorem dX1_book_9 : decode cX1_book 9 = .ok (.aload_n 0, 1) := by decide +kernel
theorem dX1_book_10 : decode cX1_book 10 = .ok (.getfield 15, 3) := by decide +kernel
theorem dX1_book_13 : decode cX1_book 13 = .ok (.iload_n 1, 1) := by decide +kernel
theorem dX1_book_14 : decode cX1_book 14 = .ok (.aaload, 1) := by decide +kernel
theorem dX1_book_15 : decode cX1_book 15 = .ok (.arraylength, 1) := by decide +kernel
theorem dX1_book_16 : decode cX1_book 16 = .ok (.invokestatic 24, 3) := by decide +kernel
theorem dX1_book_19 : decode cX1_book 19 = .ok (.ifCond .ne 5, 3) := by decide +kernel
theorem dX1_book_22 : decode cX1_book 22 = .ok (.iconst (-1), 1) := by decide +kernel
theorem dX1_book_23 : decode cX1_book 23 = .ok (.ireturn, 1) := by decide +kernel
theorem dX1_book_24 : decode cX1_book 24 = .ok (.aload_n 0, 1) := by decide +kernel
theorem dX1_book_25 : decode cX1_book 25 = .ok (.getfield 15, 3) := by decide +kernel
theorem dX1_book_28 : decode cX1_book 28 = .ok (.iload_n 1, 1) := by decide +kernel
theorem dX1_book_29 : decode cX1_book 29 = .ok (.aaload, 1) := by decide +kernel
theorem dX1_book_30 : decode cX1_book 30 = .ok (.iload_n 2, 1) := by decide +kernel
theorem dX1_book_31 : decode cX1_book 31 = .ok (.iload_n 3, 1) := by decide +kernel
theorem dX1_book_32 : decode cX1_book 32 = .ok (.iastore, 1) := by decide +kernel
theorem dX1_book_33 : decode cX1_book 33 = .ok (.iconst 1, 1) := by decide +kernel
theorem dX1_book_34 : decode cX1_book 34 = .ok (.ireturn, 1) := by decide +kernel
set_option maxRecDepth 20000 in
theorem ggX1_flat_X1_isPlace : GoodIn wsX1_flat wsX1_isPlace := goodIn_r _ [7, 8, 9, 6, 10] (by decide +kernel) (by decide +kernel)
set_option maxRecDepth 20000 in
theorem gX1_flat_X1_isPlace : GoodIn wsX1_flat (va_wsS RX1 28 yX1_isPlace wsX1_isPlace) := goodIn_app (goodIn_of _ (by decide +kernel)) ggX1_flat_X1_isPlace
set_option maxRecDepth 20000 in
theorem ggX1_flat_X0_init : GoodIn wsX1_flat wsX0_init := goodIn_r _ [13, 14, 15, 16, 17, 18, 19, 20, 21, 22, 29, 30, 31, 32, 33, 34, 35, 36, 37, 38, 39] (by decide +kernel) (by decide +kernel)
set_option maxRecDepth 20000 in
theorem gX1_flat_X0_init : GoodIn wsX1_flat (wsX0_init) := ggX1_flat_X0_init
set_option maxRecDepth 20000 in
theorem ggX1_flat_X1_stand : GoodIn wsX1_flat wsX1_stand := goodIn_r _ [26, 27, 28, 40, 41, 42, 43, 44, 45, 46] (by decide +kernel) (by decide +kernel)
set_option maxRecDepth 20000 in
theorem gX1_flat_X1_stand : GoodIn wsX1_flat (wsV RX1 35 RX1 yX1_stand wsX1_stand) := goodIn_app (goodIn_of _ (by decide +kernel)) ggX1_flat_X1_stand
theorem dX1_flat_0 : decode cX1_flat 0 = .ok (.iload_n 1, 1) := by decide +kernel
theorem dX1_flat_1 : decode cX1_flat 1 = .ok (.invokestatic 28, 3) := by decide +kernel
theorem dX1_flat_4 : decode cX1_flat 4 = .ok (.ifCond .ne 5, 3) := by decide +kernel
theorem dX1_flat_7 : decode cX1_flat 7 = .ok (.iconst (-1), 1) := by decide +kernel
theorem dX1_flat_8 : decode cX1_flat 8 = .ok (.ireturn, 1) := by decide +kernel
theorem dX1_flat_9 : decode cX1_flat 9 = .ok (.aload_n 0, 1) := by decide +kernel
theorem dX1_flat_10 : decode cX1_flat 10 = .ok (.iload_n 1, 1) := by decide +kernel
theorem dX1_flat_11 : decode cX1_flat 11 = .ok (.new 18, 3) := by decide +kernel
theorem dX1_flat_14 : decode cX1_flat 14 = .ok (.dup, 1) := by decide +kernel
theorem dX1_flat_15 : decode cX1_flat 15 = .ok (.iconst 0, 1) := by decide +kernel
theorem dX1_flat_16 : decode cX1_flat 16 = .ok (.iload_n 2, 1) := by decide +kernel
theorem dX1_flat_17 : decode cX1_flat 17 = .ok (.aconst_null, 1) := by decide +kernel
theorem dX1_flat_18 : decode cX1_flat 18 = .ok (.invokespecial 32, 3) := by decide +kernel
theorem dX1_flat_21 : decode cX1_flat 21 = .ok (.invokevirtual 35, 3) := by decide +kernel
theorem dX1_flat_24 : decode cX1_flat 24 = .ok (.ireturn, 1) := by decide +kernel
set_option maxRecDepth 20000 in
theorem ggX1_rated_X1_isPlace : GoodIn wsX1_rated wsX1_isPlace := goodIn_r _ [8, 9, 10, 7, 11] (by decide +kernel) (by decide +kernel)
set_option maxRecDepth 20000 in
theorem gX1_rated_X1_isPlace : GoodIn wsX1_rated (va_wsS RX1 28 yX1_isPlace wsX1_isPlace) := goodIn_app (goodIn_of _ (by decide +kernel)) ggX1_rated_X1_isPlace
set_option maxRecDepth 20000 in
theorem ggX1_rated_X1_isBelow : GoodIn wsX1_rated wsX1_isBelow := goodIn_r _ [11] (by decide +kernel) (by decide +kernel)
set_option maxRecDepth 20000 in
theorem gX1_rated_X1_isBelow : GoodIn wsX1_rated (va_wsS RX1 24 yX1_isBelow wsX1_isBelow) := goodIn_app (goodIn_of _ (by decide +kernel)) ggX1_rated_X1_isBelow
set_option maxRecDepth 20000 in
theorem ggX1_rated_X0_init : GoodIn wsX1_rated wsX0_init := goodIn_r _ [14, 15, 16, 17, 18, 19, 20, 21, 22, 23, 30, 31, 32, 33, 34, 35, 36, 37, 38, 39, 40] (by decide +kernel) (by decide +kernel)
set_option maxRecDepth 20000 in
theorem gX1_rated_X0_init : GoodIn wsX1_rated (wsX0_init) := ggX1_rated_X0_init
set_option maxRecDepth 20000 in
theorem ggX1_rated_X1_stand : GoodIn wsX1_rated wsX1_stand := goodIn_r _ [27, 28, 29, 41, 42, 43, 44, 45, 46, 47] (by decide +kernel) (by decide +kernel)
set_option maxRecDepth 20000 in
theorem gX1_rated_X1_stand : GoodIn wsX1_rated (wsV RX1 35 RX1 yX1_stand wsX1_stand) := goodIn_app (goodIn_of _ (by decide +kernel)) ggX1_rated_X1_stand
theorem dX1_rated_0 : decode cX1_rated 0 = .ok (.iload_n 1, 1) := by decide +kernel
theorem dX1_rated_1 : decode cX1_rated 1 = .ok (.invokestatic 28, 3) := by decide +kernel
theorem dX1_rated_4 : decode cX1_rated 4 = .ok (.ifCond .eq 12, 3) := by decide +kernel
theorem dX1_rated_7 : decode cX1_rated 7 = .ok (.iload_n 2, 1) := by decide +kernel
theorem dX1_rated_8 : decode cX1_rated 8 = .ok (.bipush 8, 2) := by decide +kernel
theorem dX1_rated_10 : decode cX1_rated 10 = .ok (.invokestatic 24, 3) := by decide +kernel
theorem dX1_rated_13 : decode cX1_rated 13 = .ok (.ifCond .ne 5, 3) := by decide +kernel
theorem dX1_rated_16 : decode cX1_rated 16 = .ok (.iconst (-1), 1) := by decide +kernel
theorem dX1_rated_17 : decode cX1_rated 17 = .ok (.ireturn, 1) := by decide +kernel
theorem dX1_rated_18 : decode cX1_rated 18 = .ok (.aload_n 0, 1) := by decide +kernel
theorem dX1_rated_19 : decode cX1_rated 19 = .ok (.iload_n 1, 1) := by decide +kernel
theorem dX1_rated_20 : decode cX1_rated 20 = .ok (.new 18, 3) := by decide +kernel
theorem dX1_rated_23 : decode cX1_rated 23 = .ok (.dup, 1) := by decide +kernel
theorem dX1_rated_24 : decode cX1_rated 24 = .ok (.iconst 1, 1) := by decide +kernel
theorem dX1_rated_25 : decode cX1_rated 25 = .ok (.aload_n 0, 1) := by decide +kernel
theorem dX1_rated_26 : decode cX1_rated 26 = .ok (.getfield 9, 3) := by decide +kernel
theorem dX1_rated_29 : decode cX1_rated 29 = .ok (.iload_n 2, 1) := by decide +kernel
theorem dX1_rated_30 : decode cX1_rated 30 = .ok (.iaload, 1) := by decide +kernel
theorem dX1_rated_31 : decode cX1_rated 31 = .ok (.aconst_null, 1) := by decide +kernel
theorem dX1_rated_32 : decode cX1_rated 32 = .ok (.invokespecial 32, 3) := by decide +kernel
theorem dX1_rated_35 : decode cX1_rated 35 = .ok (.invokevirtual 35, 3) := by decide +kernel
theorem dX1_rated_38 : decode cX1_rated 38 = .ok (.ireturn, 1) := by decide +kernel
set_option maxRecDepth 20000 in
theorem ggX1_live_X1_isPlace : GoodIn wsX1_live wsX1_isPlace := goodIn_r _ [7, 8, 9, 6, 10] (by decide +kernel) (by decide +kernel)
set_option maxRecDepth 20000 in
theorem gX1_live_X1_isPlace : GoodIn wsX1_live (va_wsS RX1 28 yX1_isPlace wsX1_isPlace) := goodIn_app (goodIn_of _ (by decide +kernel)) ggX1_live_X1_isPlace
set_option maxRecDepth 20000 in
theorem ggX1_live_X1_isBelow : GoodIn wsX1_live wsX1_isBelow := goodIn_r _ [10] (by decide +kernel) (by decide +kernel)
set_option maxRecDepth 20000 in
theorem gX1_live_X1_isBelow : GoodIn wsX1_live (va_wsS RX1 24 yX1_isBelow wsX1_isBelow) := goodIn_app (goodIn_of _ (by decide +kernel)) ggX1_live_X1_isBelow
set_option maxRecDepth 20000 in
theorem ggX1_live_X0_init : GoodIn wsX1_live wsX0_init := goodIn_r _ [13, 14, 15, 16, 17, 18, 19, 20, 21, 22, 29, 30, 31, 32, 33, 34, 35, 36, 37, 38, 39] (by decide +kernel) (by decide +kernel)
set_option maxRecDepth 20000 in
theorem gX1_live_X0_init : GoodIn wsX1_live (wsX0_init) := ggX1_live_X0_init
set_option maxRecDepth 20000 in
theorem ggX1_live_X1_stand : GoodIn wsX1_live wsX1_stand := goodIn_r _ [26, 27, 28, 40, 41, 42, 43, 44, 45, 46] (by decide +kernel) (by decide +kernel)
set_option maxRecDepth 20000 in
theorem gX1_live_X1_stand : GoodIn wsX1_live (wsV RX1 35 RX1 yX1_stand wsX1_stand) := goodIn_app (goodIn_of _ (by decide +kernel)) ggX1_live_X1_stand
theorem dX1_live_0 : decode cX1_live 0 = .ok (.iload_n 1, 1) := by decide +kernel
theorem dX1_live_1 : decode cX1_live 1 = .ok (.invokestatic 28, 3) := by decide +kernel
theorem dX1_live_4 : decode cX1_live 4 = .ok (.ifCond .eq 12, 3) := by decide +kernel
theorem dX1_live_7 : decode cX1_live 7 = .ok (.iload_n 2, 1) := by decide +kernel
theorem dX1_live_8 : decode cX1_live 8 = .ok (.bipush 8, 2) := by decide +kernel
theorem dX1_live_10 : decode cX1_live 10 = .ok (.invokestatic 24, 3) := by decide +kernel
theorem dX1_live_13 : decode cX1_live 13 = .ok (.ifCond .ne 5, 3) := by decide +kernel
theorem dX1_live_16 : decode cX1_live 16 = .ok (.iconst (-1), 1) := by decide +kernel
theorem dX1_live_17 : decode cX1_live 17 = .ok (.ireturn, 1) := by decide +kernel
theorem dX1_live_18 : decode cX1_live 18 = .ok (.aload_n 0, 1) := by decide +kernel
theorem dX1_live_19 : decode cX1_live 19 = .ok (.iload_n 1, 1) := by decide +kernel
theorem dX1_live_20 : decode cX1_live 20 = .ok (.new 18, 3) := by decide +kernel
theorem dX1_live_23 : decode cX1_live 23 = .ok (.dup, 1) := by decide +kernel
theorem dX1_live_24 : decode cX1_live 24 = .ok (.iconst 2, 1) := by decide +kernel
theorem dX1_live_25 : decode cX1_live 25 = .ok (.iload_n 2, 1) := by decide +kernel
theorem dX1_live_26 : decode cX1_live 26 = .ok (.aconst_null, 1) := by decide +kernel
theorem dX1_live_27 : decode cX1_live 27 = .ok (.invokespecial 32, 3) := by decide +kernel
theorem dX1_live_30 : decode cX1_live 30 = .ok (.invokevirtual 35, 3) := by decide +kernel
theorem dX1_live_33 : decode cX1_live 33 = .ok (.ireturn, 1) := by decide +kernel
set_option maxRecDepth 20000 in
theorem ggX1_booked_X1_isPlace : GoodIn wsX1_booked wsX1_isPlace := goodIn_r _ [8, 9, 10, 7, 11] (by decide +kernel) (by decide +kernel)
set_option maxRecDepth 20000 in
theorem gX1_booked_X1_isPlace : GoodIn wsX1_booked (va_wsS RX1 28 yX1_isPlace wsX1_isPlace) := goodIn_app (goodIn_of _ (by decide +kernel)) ggX1_booked_X1_isPlace
set_option maxRecDepth 20000 in
theorem ggX1_booked_X1_isBelow : GoodIn wsX1_booked wsX1_isBelow := goodIn_r _ [11] (by decide +kernel) (by decide +kernel)
set_option maxRecDepth 20000 in
theorem gX1_booked_X1_isBelow : GoodIn wsX1_booked (va_wsS RX1 24 yX1_isBelow wsX1_isBelow) := goodIn_app (goodIn_of _ (by decide +kernel)) ggX1_booked_X1_isBelow
set_option maxRecDepth 20000 in
theorem ggX1_booked_X0_init : GoodIn wsX1_booked wsX0_init := goodIn_r _ [14, 15, 16, 17, 18, 19, 20, 21, 22, 23, 30, 31, 32, 33, 34, 35, 36, 37, 38, 39, 40] (by decide +kernel) (by decide +kernel)
set_option maxRecDepth 20000 in
theorem gX1_booked_X0_init : GoodIn wsX1_booked (wsX0_init) := ggX1_booked_X0_init
set_option maxRecDepth 20000 in
theorem ggX1_booked_X1_stand : GoodIn wsX1_booked wsX1_stand := goodIn_r _ [27, 28, 29, 41, 42, 43, 44, 45, 46, 47] (by decide +kernel) (by decide +kernel)
set_option maxRecDepth 20000 in
theorem gX1_booked_X1_stand : GoodIn wsX1_booked (wsV RX1 35 RX1 yX1_stand wsX1_stand) := goodIn_app (goodIn_of _ (by decide +kernel)) ggX1_booked_X1_stand
theorem dX1_booked_0 : decode cX1_booked 0 = .ok (.iload_n 1, 1) := by decide +kernel
theorem dX1_booked_1 : decode cX1_booked 1 = .ok (.invokestatic 28, 3) := by decide +kernel
theorem dX1_booked_4 : decode cX1_booked 4 = .ok (.ifCond .eq 11, 3) := by decide +kernel
theorem dX1_booked_7 : decode cX1_booked 7 = .ok (.iload_n 2, 1) := by decide +kernel
theorem dX1_booked_8 : decode cX1_booked 8 = .ok (.iconst 4, 1) := by decide +kernel
theorem dX1_booked_9 : decode cX1_booked 9 = .ok (.invokestatic 24, 3) := by decide +kernel
theorem dX1_booked_12 : decode cX1_booked 12 = .ok (.ifCond .ne 5, 3) := by decide +kernel
theorem dX1_booked_15 : decode cX1_booked 15 = .ok (.iconst (-1), 1) := by decide +kernel
theorem dX1_booked_16 : decode cX1_booked 16 = .ok (.ireturn, 1) := by decide +kernel
theorem dX1_booked_17 : decode cX1_booked 17 = .ok (.aload_n 0, 1) := by decide +kernel
theorem dX1_booked_18 : decode cX1_booked 18 = .ok (.iload_n 1, 1) := by decide +kernel
theorem dX1_booked_19 : decode cX1_booked 19 = .ok (.new 18, 3) := by decide +kernel
theorem dX1_booked_22 : decode cX1_booked 22 = .ok (.dup, 1) := by decide +kernel
theorem dX1_booked_23 : decode cX1_booked 23 = .ok (.iconst 3, 1) := by decide +kernel
theorem dX1_booked_24 : decode cX1_booked 24 = .ok (.iconst 0, 1) := by decide +kernel
theorem dX1_booked_25 : decode cX1_booked 25 = .ok (.aload_n 0, 1) := by decide +kernel
theorem dX1_booked_26 : decode cX1_booked 26 = .ok (.getfield 15, 3) := by decide +kernel
theorem dX1_booked_29 : decode cX1_booked 29 = .ok (.iload_n 2, 1) := by decide +kernel
theorem dX1_booked_30 : decode cX1_booked 30 = .ok (.aaload, 1) := by decide +kernel
theorem dX1_booked_31 : decode cX1_booked 31 = .ok (.invokespecial 32, 3) := by decide +kernel
theorem dX1_booked_34 : decode cX1_booked 34 = .ok (.invokevirtual 35, 3) := by decide +kernel
theorem dX1_booked_37 : decode cX1_booked 37 = .ok (.ireturn, 1) := by decide +kernel
set_option maxRecDepth 20000 in
theorem ggX1_joined_X1_isBelow : GoodIn wsX1_joined wsX1_isBelow := goodIn_r _ [4] (by decide +kernel) (by decide +kernel)
set_option maxRecDepth 20000 in
theorem gX1_joined_X1_isBelow : GoodIn wsX1_joined (va_wsS RX1 24 yX1_isBelow wsX1_isBelow) := goodIn_app (goodIn_of _ (by decide +kernel)) ggX1_joined_X1_isBelow
set_option maxRecDepth 20000 in
theorem ggX1_joined_X1_standOver : GoodIn wsX1_joined wsX1_standOver := goodIn_r _ [8, 9, 10, 11, 12, 13, 14, 3, 15, 1, 2, 4, 16, 17, 18, 19, 20, 21, 22, 23, 24, 25, 26, 27, 28, 29, 30, 31, 32, 33, 34, 35, 36, 37, 38, 39, 40, 41, 42, 43, 44, 45, 46, 47, 48, 49, 50] (by decide +kernel) (by decide +kernel)
set_option maxRecDepth 20000 in
theorem gX1_joined_X1_standOver : GoodIn wsX1_joined (wsV RX1 39 RX1 yX1_standOver wsX1_standOver) := goodIn_app (goodIn_of _ (by decide +kernel)) ggX1_joined_X1_standOver
theorem dX1_joined_0 : decode cX1_joined 0 = .ok (.iload_n 2, 1) := by decide +kernel
theorem dX1_joined_1 : decode cX1_joined 1 = .ok (.bipush 6, 2) := by decide +kernel
theorem dX1_joined_3 : decode cX1_joined 3 = .ok (.invokestatic 24, 3) := by decide +kernel
theorem dX1_joined_6 : decode cX1_joined 6 = .ok (.ifCond .ne 5, 3) := by decide +kernel
theorem dX1_joined_9 : decode cX1_joined 9 = .ok (.iconst (-1), 1) := by decide +kernel
theorem dX1_joined_10 : decode cX1_joined 10 = .ok (.ireturn, 1) := by decide +kernel
theorem dX1_joined_11 : decode cX1_joined 11 = .ok (.aload_n 0, 1) := by decide +kernel
theorem dX1_joined_12 : decode cX1_joined 12 = .ok (.iload_n 1, 1) := by decide +kernel
theorem dX1_joined_13 : decode cX1_joined 13 = .ok (.iconst 4, 1) := by decide +kernel
theorem dX1_joined_14 : decode cX1_joined 14 = .ok (.iload_n 2, 1) := by decide +kernel
theorem dX1_joined_15 : decode cX1_joined 15 = .ok (.iload_n 3, 1) := by decide +kernel
theorem dX1_joined_16 : decode cX1_joined 16 = .ok (.iload 4, 2) := by decide +kernel
theorem dX1_joined_18 : decode cX1_joined 18 = .ok (.iload 4, 2) := by decide +kernel
theorem dX1_joined_20 : decode cX1_joined 20 = .ok (.invokevirtual 39, 3) := by decide +kernel
theorem dX1_joined_23 : decode cX1_joined 23 = .ok (.ireturn, 1) := by decide +kernel
set_option maxRecDepth 20000 in
theorem ggX1_when_X1_standOver : GoodIn wsX1_when wsX1_standOver := goodIn_r _ [5, 6, 7, 8, 9, 10, 11, 4, 12, 13, 14, 15, 16, 17, 18, 19, 20, 21, 22, 23, 24, 25, 26, 27, 28, 29, 30, 31, 32, 33, 34, 35, 36, 37, 38, 39, 40, 41, 42, 43, 44, 45, 46, 47, 48, 49, 50] (by decide +kernel) (by decide +kernel)
set_option maxRecDepth 20000 in
theorem gX1_when_X1_standOver : GoodIn wsX1_when (wsV RX1 39 RX1 yX1_standOver wsX1_standOver) := goodIn_app (goodIn_of _ (by decide +kernel)) ggX1_when_X1_standOver
theorem dX1_when_0 : decode cX1_when 0 = .ok (.aload_n 0, 1) := by decide +kernel
theorem dX1_when_1 : decode cX1_when 1 = .ok (.iload_n 1, 1) := by decide +kernel
theorem dX1_when_2 : decode cX1_when 2 = .ok (.iconst 5, 1) := by decide +kernel
theorem dX1_when_3 : decode cX1_when 3 = .ok (.iconst 0, 1) := by decide +kernel
theorem dX1_when_4 : decode cX1_when 4 = .ok (.iload_n 2, 1) := by decide +kernel
theorem dX1_when_5 : decode cX1_when 5 = .ok (.iload_n 3, 1) := by decide +kernel
theorem dX1_when_6 : decode cX1_when 6 = .ok (.iload 4, 2) := by decide +kernel
theorem dX1_when_8 : decode cX1_when 8 = .ok (.invokevirtual 39, 3) := by decide +kernel
theorem dX1_when_11 : decode cX1_when 11 = .ok (.ireturn, 1) := by decide +kernel
set_option maxRecDepth 20000 in
theorem ggX1_fixed_X1_standOver : GoodIn wsX1_fixed wsX1_standOver := goodIn_r _ [5, 6, 7, 8, 9, 10, 11, 4, 12, 13, 14, 15, 16, 17, 18, 19, 20, 21, 22, 23, 24, 25, 26, 27, 28, 29, 30, 31, 32, 33, 34, 35, 36, 37, 38, 39, 40, 41, 42, 43, 44, 45, 46, 47, 48, 49, 50] (by decide +kernel) (by decide +kernel)
set_option maxRecDepth 20000 in
theorem gX1_fixed_X1_standOver : GoodIn wsX1_fixed (wsV RX1 39 RX1 yX1_standOver wsX1_standOver) := goodIn_app (goodIn_of _ (by decide +kernel)) ggX1_fixed_X1_standOver
theorem dX1_fixed_0 : decode cX1_fixed 0 = .ok (.aload_n 0, 1) := by decide +kernel
theorem dX1_fixed_1 : decode cX1_fixed 1 = .ok (.iload_n 1, 1) := by decide +kernel
theorem dX1_fixed_2 : decode cX1_fixed 2 = .ok (.bipush 6, 2) := by decide +kernel
theorem dX1_fixed_4 : decode cX1_fixed 4 = .ok (.iload_n 3, 1) := by decide +kernel
theorem dX1_fixed_5 : decode cX1_fixed 5 = .ok (.iload_n 2, 1) := by decide +kernel
theorem dX1_fixed_6 : decode cX1_fixed 6 = .ok (.iload_n 2, 1) := by decide +kernel
theorem dX1_fixed_7 : decode cX1_fixed 7 = .ok (.iload_n 2, 1) := by decide +kernel
theorem dX1_fixed_8 : decode cX1_fixed 8 = .ok (.invokevirtual 39, 3) := by decide +kernel
theorem dX1_fixed_11 : decode cX1_fixed 11 = .ok (.ireturn, 1) := by decide +kernel
set_option maxRecDepth 20000 in
theorem ggX1_fed_X1_standOver : GoodIn wsX1_fed wsX1_standOver := goodIn_r _ [5, 6, 7, 8, 9, 10, 11, 4, 12, 13, 14, 15, 16, 17, 18, 19, 20, 21, 22, 23, 24, 25, 26, 27, 28, 29, 30, 31, 32, 33, 34, 35, 36, 37, 38, 39, 40, 41, 42, 43, 44, 45, 46, 47, 48, 49, 50] (by decide +kernel) (by decide +kernel)
set_option maxRecDepth 20000 in
theorem gX1_fed_X1_standOver : GoodIn wsX1_fed (wsV RX1 39 RX1 yX1_standOver wsX1_standOver) := goodIn_app (goodIn_of _ (by decide +kernel)) ggX1_fed_X1_standOver
theorem dX1_fed_0 : decode cX1_fed 0 = .ok (.aload_n 0, 1) := by decide +kernel
theorem dX1_fed_1 : decode cX1_fed 1 = .ok (.iload_n 1, 1) := by decide +kernel
theorem dX1_fed_2 : decode cX1_fed 2 = .ok (.bipush 7, 2) := by decide +kernel
theorem dX1_fed_4 : decode cX1_fed 4 = .ok (.iconst 0, 1) := by decide +kernel
theorem dX1_fed_5 : decode cX1_fed 5 = .ok (.iload_n 2, 1) := by decide +kernel
theorem dX1_fed_6 : decode cX1_fed 6 = .ok (.iload_n 3, 1) := by decide +kernel
theorem dX1_fed_7 : decode cX1_fed 7 = .ok (.iload_n 3, 1) := by decide +kernel
theorem dX1_fed_8 : decode cX1_fed 8 = .ok (.invokevirtual 39, 3) := by decide +kernel
theorem dX1_fed_11 : decode cX1_fed 11 = .ok (.ireturn, 1) := by decide +kernel
set_option maxRecDepth 20000 in
theorem ggX1_guarded_X1_standOver : GoodIn wsX1_guarded wsX1_standOver := goodIn_r _ [5, 6, 7, 8, 9, 10, 11, 4, 12, 13, 14, 15, 16, 17, 18, 19, 20, 21, 22, 23, 24, 25, 26, 27, 28, 29, 30, 31, 32, 33, 34, 35, 36, 37, 38, 39, 40, 41, 42, 43, 44, 45, 46, 47, 48, 49, 50] (by decide +kernel) (by decide +kernel)
set_option maxRecDepth 20000 in
theorem gX1_guarded_X1_standOver : GoodIn wsX1_guarded (wsV RX1 39 RX1 yX1_standOver wsX1_standOver) := goodIn_app (goodIn_of _ (by decide +kernel)) ggX1_guarded_X1_standOver
theorem dX1_guarded_0 : decode cX1_guarded 0 = .ok (.aload_n 0, 1) := by decide +kernel
theorem dX1_guarded_1 : decode cX1_guarded 1 = .ok (.iload_n 1, 1) := by decide +kernel
theorem dX1_guarded_2 : decode cX1_guarded 2 = .ok (.bipush 8, 2) := by decide +kernel
theorem dX1_guarded_4 : decode cX1_guarded 4 = .ok (.iconst 0, 1) := by decide +kernel
theorem dX1_guarded_5 : decode cX1_guarded 5 = .ok (.iload_n 2, 1) := by decide +kernel
theorem dX1_guarded_6 : decode cX1_guarded 6 = .ok (.iload_n 3, 1) := by decide +kernel
theorem dX1_guarded_7 : decode cX1_guarded 7 = .ok (.iload_n 3, 1) := by decide +kernel
theorem dX1_guarded_8 : decode cX1_guarded 8 = .ok (.invokevirtual 39, 3) := by decide +kernel
theorem dX1_guarded_11 : decode cX1_guarded 11 = .ok (.ireturn, 1) := by decide +kernel
set_option maxRecDepth 20000 in
theorem ggX1_called_X1_isPlace : GoodIn wsX1_called wsX1_isPlace := goodIn_r _ [7, 8, 9, 6, 10] (by decide +kernel) (by decide +kernel)
set_option maxRecDepth 20000 in
theorem gX1_called_X1_isPlace : GoodIn wsX1_called (va_wsS RX1 28 yX1_isPlace wsX1_isPlace) := goodIn_app (goodIn_of _ (by decide +kernel)) ggX1_called_X1_isPlace
set_option maxRecDepth 20000 in
theorem ggX1_called_X0_init : GoodIn wsX1_called wsX0_init := goodIn_r _ [13, 14, 15, 16, 17, 18, 19, 20, 21, 22, 29, 30, 31, 32, 33, 34, 35, 36, 37, 38, 39] (by decide +kernel) (by decide +kernel)
set_option maxRecDepth 20000 in
theorem gX1_called_X0_init : GoodIn wsX1_called (wsX0_init) := ggX1_called_X0_init
set_option maxRecDepth 20000 in
theorem ggX1_called_X1_stand : GoodIn wsX1_called wsX1_stand := goodIn_r _ [26, 27, 28, 40, 41, 42, 43, 44, 45, 46] (by decide +kernel) (by decide +kernel)
set_option maxRecDepth 20000 in
theorem gX1_called_X1_stand : GoodIn wsX1_called (wsV RX1 35 RX1 yX1_stand wsX1_stand) := goodIn_app (goodIn_of _ (by decide +kernel)) ggX1_called_X1_stand
theorem dX1_called_0 : decode cX1_called 0 = .ok (.iload_n 1, 1) := by decide +kernel
theorem dX1_called_1 : decode cX1_called 1 = .ok (.invokestatic 28, 3) := by decide +kernel
theorem dX1_called_4 : decode cX1_called 4 = .ok (.ifCond .eq 10, 3) := by decide +kernel
theorem dX1_called_7 : decode cX1_called 7 = .ok (.iload_n 2, 1) := by decide +kernel
theorem dX1_called_8 : decode cX1_called 8 = .ok (.invokestatic 28, 3) := by decide +kernel
theorem dX1_called_11 : decode cX1_called 11 = .ok (.ifCond .ne 5, 3) := by decide +kernel
theorem dX1_called_14 : decode cX1_called 14 = .ok (.iconst (-1), 1) := by decide +kernel
theorem dX1_called_15 : decode cX1_called 15 = .ok (.ireturn, 1) := by decide +kernel
theorem dX1_called_16 : decode cX1_called 16 = .ok (.aload_n 0, 1) := by decide +kernel
theorem dX1_called_17 : decode cX1_called 17 = .ok (.iload_n 1, 1) := by decide +kernel
theorem dX1_called_18 : decode cX1_called 18 = .ok (.new 18, 3) := by decide +kernel
theorem dX1_called_21 : decode cX1_called 21 = .ok (.dup, 1) := by decide +kernel
theorem dX1_called_22 : decode cX1_called 22 = .ok (.bipush 9, 2) := by decide +kernel
theorem dX1_called_24 : decode cX1_called 24 = .ok (.iload_n 2, 1) := by decide +kernel
theorem dX1_called_25 : decode cX1_called 25 = .ok (.aconst_null, 1) := by decide +kernel
theorem dX1_called_26 : decode cX1_called 26 = .ok (.invokespecial 32, 3) := by decide +kernel
theorem dX1_called_29 : decode cX1_called 29 = .ok (.invokevirtual 35, 3) := by decide +kernel
theorem dX1_called_32 : decode cX1_called 32 = .ok (.ireturn, 1) := by decide +kernel
set_option maxRecDepth 20000 in
theorem ggX1_barred_X1_standOver : GoodIn wsX1_barred wsX1_standOver := goodIn_r _ [5, 6, 7, 8, 9, 10, 11, 4, 12, 13, 14, 15, 16, 17, 18, 19, 20, 21, 22, 23, 24, 25, 26, 27, 28, 29, 30, 31, 32, 33, 34, 35, 36, 37, 38, 39, 40, 41, 42, 43, 44, 45, 46, 47, 48, 49, 50] (by decide +kernel) (by decide +kernel)
set_option maxRecDepth 20000 in
theorem gX1_barred_X1_standOver : GoodIn wsX1_barred (wsV RX1 39 RX1 yX1_standOver wsX1_standOver) := goodIn_app (goodIn_of _ (by decide +kernel)) ggX1_barred_X1_standOver
theorem dX1_barred_0 : decode cX1_barred 0 = .ok (.aload_n 0, 1) := by decide +kernel
theorem dX1_barred_1 : decode cX1_barred 1 = .ok (.iload_n 1, 1) := by decide +kernel
theorem dX1_barred_2 : decode cX1_barred 2 = .ok (.bipush 10, 2) := by decide +kernel
theorem dX1_barred_4 : decode cX1_barred 4 = .ok (.iload_n 3, 1) := by decide +kernel
theorem dX1_barred_5 : decode cX1_barred 5 = .ok (.iload_n 2, 1) := by decide +kernel
theorem dX1_barred_6 : decode cX1_barred 6 = .ok (.iload_n 2, 1) := by decide +kernel
theorem dX1_barred_7 : decode cX1_barred 7 = .ok (.iload_n 2, 1) := by decide +kernel
theorem dX1_barred_8 : decode cX1_barred 8 = .ok (.invokevirtual 39, 3) := by decide +kernel
theorem dX1_barred_11 : decode cX1_barred 11 = .ok (.ireturn, 1) := by decide +kernel
set_option maxRecDepth 20000 in
theorem ggX1_counted_X1_standOver : GoodIn wsX1_counted wsX1_standOver := goodIn_r _ [5, 6, 7, 8, 9, 10, 11, 4, 12, 13, 14, 15, 16, 17, 18, 19, 20, 21, 22, 23, 24, 25, 26, 27, 28, 29, 30, 31, 32, 33, 34, 35, 36, 37, 38, 39, 40, 41, 42, 43, 44, 45, 46, 47, 48, 49, 50] (by decide +kernel) (by decide +kernel)
set_option maxRecDepth 20000 in
theorem gX1_counted_X1_standOver : GoodIn wsX1_counted (wsV RX1 39 RX1 yX1_standOver wsX1_standOver) := goodIn_app (goodIn_of _ (by decide +kernel)) ggX1_counted_X1_standOver
theorem dX1_counted_0 : decode cX1_counted 0 = .ok (.aload_n 0, 1) := by decide +kernel
theorem dX1_counted_1 : decode cX1_counted 1 = .ok (.iload_n 1, 1) := by decide +kernel
theorem dX1_counted_2 : decode cX1_counted 2 = .ok (.bipush 11, 2) := by decide +kernel
theorem dX1_counted_4 : decode cX1_counted 4 = .ok (.iconst 0, 1) := by decide +kernel
theorem dX1_counted_5 : decode cX1_counted 5 = .ok (.iload_n 2, 1) := by decide +kernel
theorem dX1_counted_6 : decode cX1_counted 6 = .ok (.iload_n 2, 1) := by decide +kernel
theorem dX1_counted_7 : decode cX1_counted 7 = .ok (.iload_n 2, 1) := by decide +kernel
theorem dX1_counted_8 : decode cX1_counted 8 = .ok (.invokevirtual 39, 3) := by decide +kernel
theorem dX1_counted_11 : decode cX1_counted 11 = .ok (.ireturn, 1) := by decide +kernel
set_option maxRecDepth 20000 in
theorem ggX1_kept_X1_standOver : GoodIn wsX1_kept wsX1_standOver := goodIn_r _ [5, 6, 7, 8, 9, 10, 11, 4, 12, 13, 14, 15, 16, 17, 18, 19, 20, 21, 22, 23, 24, 25, 26, 27, 28, 29, 30, 31, 32, 33, 34, 35, 36, 37, 38, 39, 40, 41, 42, 43, 44, 45, 46, 47, 48, 49, 50] (by decide +kernel) (by decide +kernel)
set_option maxRecDepth 20000 in
theorem gX1_kept_X1_standOver : GoodIn wsX1_kept (wsV RX1 39 RX1 yX1_standOver wsX1_standOver) := goodIn_app (goodIn_of _ (by decide +kernel)) ggX1_kept_X1_standOver
theorem dX1_kept_0 : decode cX1_kept 0 = .ok (.aload_n 0, 1) := by decide +kernel
theorem dX1_kept_1 : decode cX1_kept 1 = .ok (.iload_n 1, 1) := by decide +kernel
theorem dX1_kept_2 : decode cX1_kept 2 = .ok (.bipush 12, 2) := by decide +kernel
theorem dX1_kept_4 : decode cX1_kept 4 = .ok (.iconst 0, 1) := by decide +kernel
theorem dX1_kept_5 : decode cX1_kept 5 = .ok (.iload_n 2, 1) := by decide +kernel
theorem dX1_kept_6 : decode cX1_kept 6 = .ok (.iload_n 2, 1) := by decide +kernel
theorem dX1_kept_7 : decode cX1_kept 7 = .ok (.iload_n 2, 1) := by decide +kernel
theorem dX1_kept_8 : decode cX1_kept 8 = .ok (.invokevirtual 39, 3) := by decide +kernel
theorem dX1_kept_11 : decode cX1_kept 11 = .ok (.ireturn, 1) := by decide +kernel
set_option maxRecDepth 20000 in
theorem ggX1_put_X1_isPlace : GoodIn wsX1_put wsX1_isPlace := goodIn_r _ [5, 6, 7, 4, 8] (by decide +kernel) (by decide +kernel)
set_option maxRecDepth 20000 in
theorem gX1_put_X1_isPlace : GoodIn wsX1_put (va_wsS RX1 28 yX1_isPlace wsX1_isPlace) := goodIn_app (goodIn_of _ (by decide +kernel)) ggX1_put_X1_isPlace
theorem dX1_put_0 : decode cX1_put 0 = .ok (.iload_n 1, 1) := by decide +kernel
theorem dX1_put_1 : decode cX1_put 1 = .ok (.invokestatic 28, 3) := by decide +kernel
theorem dX1_put_4 : decode cX1_put 4 = .ok (.ifCond .eq 10, 3) := by decide +kernel
theorem dX1_put_7 : decode cX1_put 7 = .ok (.iload_n 2, 1) := by decide +kernel
theorem dX1_put_8 : decode cX1_put 8 = .ok (.invokestatic 28, 3) := by decide +kernel
theorem dX1_put_11 : decode cX1_put 11 = .ok (.ifCond .ne 5, 3) := by decide +kernel
theorem dX1_put_14 : decode cX1_put 14 = .ok (.iconst (-1), 1) := by decide +kernel
theorem dX1_put_15 : decode cX1_put 15 = .ok (.ireturn, 1) := by decide +kernel
theorem dX1_put_16 : decode cX1_put 16 = .ok (.aload_n 0, 1) := by decide +kernel
theorem dX1_put_17 : decode cX1_put 17 = .ok (.getfield 20, 3) := by decide +kernel
theorem dX1_put_20 : decode cX1_put 20 = .ok (.iload_n 1, 1) := by decide +kernel
theorem dX1_put_21 : decode cX1_put 21 = .ok (.aaload, 1) := by decide +kernel
theorem dX1_put_22 : decode cX1_put 22 = .ok (.ifnonnull 6, 3) := by decide +kernel
theorem dX1_put_25 : decode cX1_put 25 = .ok (.bipush (-2), 2) := by decide +kernel
theorem dX1_put_27 : decode cX1_put 27 = .ok (.ireturn, 1) := by decide +kernel
theorem dX1_put_28 : decode cX1_put 28 = .ok (.aload_n 0, 1) := by decide +kernel
theorem dX1_put_29 : decode cX1_put 29 = .ok (.getfield 20, 3) := by decide +kernel
theorem dX1_put_32 : decode cX1_put 32 = .ok (.iload_n 2, 1) := by decide +kernel
theorem dX1_put_33 : decode cX1_put 33 = .ok (.aload_n 0, 1) := by decide +kernel
theorem dX1_put_34 : decode cX1_put 34 = .ok (.getfield 20, 3) := by decide +kernel
theorem dX1_put_37 : decode cX1_put 37 = .ok (.iload_n 1, 1) := by decide +kernel
theorem dX1_put_38 : decode cX1_put 38 = .ok (.aaload, 1) := by decide +kernel
theorem dX1_put_39 : decode cX1_put 39 = .ok (.aastore, 1) := by decide +kernel
theorem dX1_put_40 : decode cX1_put 40 = .ok (.iconst 1, 1) := by decide +kernel
theorem dX1_put_41 : decode cX1_put 41 = .ok (.ireturn, 1) := by decide +kernel
set_option maxRecDepth 20000 in
theorem ggX1_take_X1_isPlace : GoodIn wsX1_take wsX1_isPlace := goodIn_r _ [5, 6, 7, 4, 8] (by decide +kernel) (by decide +kernel)
set_option maxRecDepth 20000 in
theorem gX1_take_X1_isPlace : GoodIn wsX1_take (va_wsS RX1 28 yX1_isPlace wsX1_isPlace) := goodIn_app (goodIn_of _ (by decide +kernel)) ggX1_take_X1_isPlace
theorem dX1_take_0 : decode cX1_take 0 = .ok (.iload_n 1, 1) := by decide +kernel
theorem dX1_take_1 : decode cX1_take 1 = .ok (.invokestatic 28, 3) := by decide +kernel
theorem dX1_take_4 : decode cX1_take 4 = .ok (.ifCond .ne 5, 3) := by decide +kernel
theorem dX1_take_7 : decode cX1_take 7 = .ok (.iconst (-1), 1) := by decide +kernel
theorem dX1_take_8 : decode cX1_take 8 = .ok (.ireturn, 1) := by decide +kernel
theorem dX1_take_9 : decode cX1_take 9 = .ok (.aload_n 0, 1) := by decide +kernel
theorem dX1_take_10 : decode cX1_take 10 = .ok (.getfield 20, 3) := by decide +kernel
theorem dX1_take_13 : decode cX1_take 13 = .ok (.iload_n 1, 1) := by decide +kernel
theorem dX1_take_14 : decode cX1_take 14 = .ok (.aaload, 1) := by decide +kernel
theorem dX1_take_15 : decode cX1_take 15 = .ok (.ifnonnull 6, 3) := by decide +kernel
theorem dX1_take_18 : decode cX1_take 18 = .ok (.bipush (-2), 2) := by decide +kernel
theorem dX1_take_20 : decode cX1_take 20 = .ok (.ireturn, 1) := by decide +kernel
theorem dX1_take_21 : decode cX1_take 21 = .ok (.aload_n 0, 1) := by decide +kernel
theorem dX1_take_22 : decode cX1_take 22 = .ok (.getfield 20, 3) := by decide +kernel
theorem dX1_take_25 : decode cX1_take 25 = .ok (.iload_n 1, 1) := by decide +kernel
theorem dX1_take_26 : decode cX1_take 26 = .ok (.aconst_null, 1) := by decide +kernel
theorem dX1_take_27 : decode cX1_take 27 = .ok (.aastore, 1) := by decide +kernel
theorem dX1_take_28 : decode cX1_take 28 = .ok (.iconst 1, 1) := by decide +kernel
theorem dX1_take_29 : decode cX1_take 29 = .ok (.ireturn, 1) := by decide +kernel
set_option maxRecDepth 20000 in
theorem ggX1_ask_X1_isPlace : GoodIn wsX1_ask wsX1_isPlace := goodIn_r _ [8, 9, 10, 7, 11] (by decide +kernel) (by decide +kernel)
set_option maxRecDepth 20000 in
theorem gX1_ask_X1_isPlace : GoodIn wsX1_ask (va_wsS RX1 28 yX1_isPlace wsX1_isPlace) := goodIn_app (goodIn_of _ (by decide +kernel)) ggX1_ask_X1_isPlace
set_option maxRecDepth 20000 in
theorem ggX1_ask_X1_fail : GoodIn wsX1_ask wsX1_fail := goodIn_r _ [15, 2, 80, 81, 82, 83, 84, 85, 86] (by decide +kernel) (by decide +kernel)
set_option maxRecDepth 20000 in
theorem gX1_ask_X1_fail : GoodIn wsX1_ask (wsV RX1 50 RX1 yX1_fail wsX1_fail) := goodIn_app (goodIn_of _ (by decide +kernel)) ggX1_ask_X1_fail
set_option maxRecDepth 20000 in
theorem ggX1_ask_X1_answer : GoodIn wsX1_ask wsX1_answer := goodIn_r _ [19, 1, 12, 13, 14, 7, 15, 2, 20, 21, 22, 23, 24, 25, 26, 27, 28, 29, 30, 31, 9, 10, 11, 32, 33, 34, 35, 36, 37, 38, 39, 40, 41, 42, 16, 17, 18, 43, 44, 45, 46, 47, 48, 49, 50, 51, 52, 3, 5, 6, 8, 53, 54, 55, 56, 57, 58, 59, 60, 61, 62, 63, 64, 65, 66, 67, 68, 69, 70, 71, 72, 73, 74, 75, 76, 77, 78, 79, 80, 81, 82, 83, 84, 85, 86, 87, 88, 89, 90, 91, 92, 93, 94, 95, 96, 97] (by decide +kernel) (by decide +kernel)
set_option maxRecDepth 20000 in
theorem gX1_ask_X1_answer : GoodIn wsX1_ask (wsV RX1 54 RX1 yX1_answer wsX1_answer) := goodIn_app (goodIn_of _ (by decide +kernel)) ggX1_ask_X1_answer
theorem dX1_ask_0 : decode cX1_ask 0 = .ok (.aload_n 0, 1) := by decide +kernel
theorem dX1_ask_1 : decode cX1_ask 1 = .ok (.iconst 0, 1) := by decide +kernel
theorem dX1_ask_2 : decode cX1_ask 2 = .ok (.putfield 43, 3) := by decide +kernel
theorem dX1_ask_5 : decode cX1_ask 5 = .ok (.aload_n 0, 1) := by decide +kernel
theorem dX1_ask_6 : decode cX1_ask 6 = .ok (.iconst 0, 1) := by decide +kernel
theorem dX1_ask_7 : decode cX1_ask 7 = .ok (.putfield 47, 3) := by decide +kernel
theorem dX1_ask_10 : decode cX1_ask 10 = .ok (.iload_n 1, 1) := by decide +kernel
theorem dX1_ask_11 : decode cX1_ask 11 = .ok (.invokestatic 28, 3) := by decide +kernel
theorem dX1_ask_14 : decode cX1_ask 14 = .ok (.ifCond .ne 9, 3) := by decide +kernel
theorem dX1_ask_17 : decode cX1_ask 17 = .ok (.aload_n 0, 1) := by decide +kernel
theorem dX1_ask_18 : decode cX1_ask 18 = .ok (.iconst (-1), 1) := by decide +kernel
theorem dX1_ask_19 : decode cX1_ask 19 = .ok (.invokevirtual 50, 3) := by decide +kernel
theorem dX1_ask_22 : decode cX1_ask 22 = .ok (.lreturn, 1) := by decide +kernel
theorem dX1_ask_23 : decode cX1_ask 23 = .ok (.aload_n 0, 1) := by decide +kernel
theorem dX1_ask_24 : decode cX1_ask 24 = .ok (.getfield 20, 3) := by decide +kernel
theorem dX1_ask_27 : decode cX1_ask 27 = .ok (.iload_n 1, 1) := by decide +kernel
theorem dX1_ask_28 : decode cX1_ask 28 = .ok (.aaload, 1) := by decide +kernel
theorem dX1_ask_29 : decode cX1_ask 29 = .ok (.ifnonnull 10, 3) := by decide +kernel
theorem dX1_ask_32 : decode cX1_ask 32 = .ok (.aload_n 0, 1) := by decide +kernel
theorem dX1_ask_33 : decode cX1_ask 33 = .ok (.bipush (-2), 2) := by decide +kernel
theorem dX1_ask_35 : decode cX1_ask 35 = .ok (.invokevirtual 50, 3) := by decide +kernel
theorem dX1_ask_38 : decode cX1_ask 38 = .ok (.lreturn, 1) := by decide +kernel
theorem dX1_ask_39 : decode cX1_ask 39 = .ok (.aload_n 0, 1) := by decide +kernel
theorem dX1_ask_40 : decode cX1_ask 40 = .ok (.aload_n 0, 1) := by decide +kernel
theorem dX1_ask_41 : decode cX1_ask 41 = .ok (.getfield 20, 3) := by decide +kernel
theorem dX1_ask_44 : decode cX1_ask 44 = .ok (.iload_n 1, 1) := by decide +kernel
theorem dX1_ask_45 : decode cX1_ask 45 = .ok (.aaload, 1) := by decide +kernel
theorem dX1_ask_46 : decode cX1_ask 46 = .ok (.iload_n 2, 1) := by decide +kernel
theorem dX1_ask_47 : decode cX1_ask 47 = .ok (.iload_n 3, 1) := by decide +kernel
theorem dX1_ask_48 : decode cX1_ask 48 = .ok (.iconst 0, 1) := by decide +kernel
theorem dX1_ask_49 : decode cX1_ask 49 = .ok (.invokevirtual 54, 3) := by decide +kernel
theorem dX1_ask_52 : decode cX1_ask 52 = .ok (.lstore 4, 2) := by decide +kernel
theorem dX1_ask_54 : decode cX1_ask 54 = .ok (.aload_n 0, 1) := by decide +kernel
theorem dX1_ask_55 : decode cX1_ask 55 = .ok (.getfield 47, 3) := by decide +kernel
theorem dX1_ask_58 : decode cX1_ask 58 = .ok (.ifCond .eq 15, 3) := by decide +kernel
theorem dX1_ask_61 : decode cX1_ask 61 = .ok (.aload_n 0, 1) := by decide +kernel
theorem dX1_ask_62 : decode cX1_ask 62 = .ok (.dup, 1) := by decide +kernel
theorem dX1_ask_63 : decode cX1_ask 63 = .ok (.getfield 58, 3) := by decide +kernel
theorem dX1_ask_66 : decode cX1_ask 66 = .ok (.iconst 1, 1) := by decide +kernel
theorem dX1_ask_67 : decode cX1_ask 67 = .ok (.iadd, 1) := by decide +kernel
theorem dX1_ask_68 : decode cX1_ask 68 = .ok (.putfield 58, 3) := by decide +kernel
theorem dX1_ask_71 : decode cX1_ask 71 = .ok (.lconst 0, 1) := by decide +kernel
theorem dX1_ask_72 : decode cX1_ask 72 = .ok (.lreturn, 1) := by decide +kernel
theorem dX1_ask_73 : decode cX1_ask 73 = .ok (.lload 4, 2) := by decide +kernel
theorem dX1_ask_75 : decode cX1_ask 75 = .ok (.lreturn, 1) := by decide +kernel
theorem dX1_failed_0 : decode cX1_failed 0 = .ok (.aload_n 0, 1) := by decide +kernel
theorem dX1_failed_1 : decode cX1_failed 1 = .ok (.getfield 47, 3) := by decide +kernel
theorem dX1_failed_4 : decode cX1_failed 4 = .ok (.ireturn, 1) := by decide +kernel
set_option maxRecDepth 20000 in
theorem ggX1_same_X1_isPlace : GoodIn wsX1_same wsX1_isPlace := goodIn_r _ [5, 6, 7, 4, 8] (by decide +kernel) (by decide +kernel)
set_option maxRecDepth 20000 in
theorem gX1_same_X1_isPlace : GoodIn wsX1_same (va_wsS RX1 28 yX1_isPlace wsX1_isPlace) := goodIn_app (goodIn_of _ (by decide +kernel)) ggX1_same_X1_isPlace
theorem dX1_same_0 : decode cX1_same 0 = .ok (.iload_n 1, 1) := by decide +kernel
theorem dX1_same_1 : decode cX1_same 1 = .ok (.invokestatic 28, 3) := by decide +kernel
theorem dX1_same_4 : decode cX1_same 4 = .ok (.ifCond .eq 10, 3) := by decide +kernel
theorem dX1_same_7 : decode cX1_same 7 = .ok (.iload_n 2, 1) := by decide +kernel
theorem dX1_same_8 : decode cX1_same 8 = .ok (.invokestatic 28, 3) := by decide +kernel
theorem dX1_same_11 : decode cX1_same 11 = .ok (.ifCond .ne 5, 3) := by decide +kernel
theorem dX1_same_14 : decode cX1_same 14 = .ok (.iconst (-1), 1) := by decide +kernel
theorem dX1_same_15 : decode cX1_same 15 = .ok (.ireturn, 1) := by decide +kernel
theorem dX1_same_16 : decode cX1_same 16 = .ok (.aload_n 0, 1) := by decide +kernel
theorem dX1_same_17 : decode cX1_same 17 = .ok (.getfield 20, 3) := by decide +kernel
theorem dX1_same_20 : decode cX1_same 20 = .ok (.iload_n 1, 1) := by decide +kernel
theorem dX1_same_21 : decode cX1_same 21 = .ok (.aaload, 1) := by decide +kernel
theorem dX1_same_22 : decode cX1_same 22 = .ok (.ifnull 22, 3) := by decide +kernel
theorem dX1_same_25 : decode cX1_same 25 = .ok (.aload_n 0, 1) := by decide +kernel
theorem dX1_same_26 : decode cX1_same 26 = .ok (.getfield 20, 3) := by decide +kernel
theorem dX1_same_29 : decode cX1_same 29 = .ok (.iload_n 1, 1) := by decide +kernel
theorem dX1_same_30 : decode cX1_same 30 = .ok (.aaload, 1) := by decide +kernel
theorem dX1_same_31 : decode cX1_same 31 = .ok (.aload_n 0, 1) := by decide +kernel
theorem dX1_same_32 : decode cX1_same 32 = .ok (.getfield 20, 3) := by decide +kernel
theorem dX1_same_35 : decode cX1_same 35 = .ok (.iload_n 2, 1) := by decide +kernel
theorem dX1_same_36 : decode cX1_same 36 = .ok (.aaload, 1) := by decide +kernel
theorem dX1_same_37 : decode cX1_same 37 = .ok (.if_acmp .ne 7, 3) := by decide +kernel
theorem dX1_same_40 : decode cX1_same 40 = .ok (.iconst 1, 1) := by decide +kernel
theorem dX1_same_41 : decode cX1_same 41 = .ok (.goto 4, 3) := by decide +kernel
theorem dX1_same_44 : decode cX1_same 44 = .ok (.iconst 0, 1) := by decide +kernel
theorem dX1_same_45 : decode cX1_same 45 = .ok (.ireturn, 1) := by decide +kernel
set_option maxRecDepth 20000 in
theorem ggX1_count_X1_isPlace : GoodIn wsX1_count wsX1_isPlace := goodIn_r _ [7, 8, 9, 6, 10] (by decide +kernel) (by decide +kernel)
set_option maxRecDepth 20000 in
theorem gX1_count_X1_isPlace : GoodIn wsX1_count (va_wsS RX1 28 yX1_isPlace wsX1_isPlace) := goodIn_app (goodIn_of _ (by decide +kernel)) ggX1_count_X1_isPlace
theorem dX1_count_0 : decode cX1_count 0 = .ok (.iload_n 1, 1) := by decide +kernel
theorem dX1_count_1 : decode cX1_count 1 = .ok (.invokestatic 28, 3) := by decide +kernel
theorem dX1_count_4 : decode cX1_count 4 = .ok (.ifCond .ne 5, 3) := by decide +kernel
theorem dX1_count_7 : decode cX1_count 7 = .ok (.iconst (-1), 1) := by decide +kernel
theorem dX1_count_8 : decode cX1_count 8 = .ok (.ireturn, 1) := by decide +kernel
theorem dX1_count_9 : decode cX1_count 9 = .ok (.aload_n 0, 1) := by decide +kernel
theorem dX1_count_10 : decode cX1_count 10 = .ok (.getfield 20, 3) := by decide +kernel
theorem dX1_count_13 : decode cX1_count 13 = .ok (.iload_n 1, 1) := by decide +kernel
theorem dX1_count_14 : decode cX1_count 14 = .ok (.aaload, 1) := by decide +kernel
theorem dX1_count_15 : decode cX1_count 15 = .ok (.astore_n 2, 1) := by decide +kernel
theorem dX1_count_16 : decode cX1_count 16 = .ok (.aload_n 2, 1) := by decide +kernel
theorem dX1_count_17 : decode cX1_count 17 = .ok (.ifnull 12, 3) := by decide +kernel
theorem dX1_count_20 : decode cX1_count 20 = .ok (.aload_n 2, 1) := by decide +kernel
theorem dX1_count_21 : decode cX1_count 21 = .ok (.getfield 61, 3) := by decide +kernel
theorem dX1_count_24 : decode cX1_count 24 = .ok (.bipush 11, 2) := by decide +kernel
theorem dX1_count_26 : decode cX1_count 26 = .ok (.if_icmp .eq 6, 3) := by decide +kernel
theorem dX1_count_29 : decode cX1_count 29 = .ok (.bipush (-2), 2) := by decide +kernel
theorem dX1_count_31 : decode cX1_count 31 = .ok (.ireturn, 1) := by decide +kernel
theorem dX1_count_32 : decode cX1_count 32 = .ok (.aload_n 2, 1) := by decide +kernel
theorem dX1_count_33 : decode cX1_count 33 = .ok (.getfield 64, 3) := by decide +kernel
theorem dX1_count_36 : decode cX1_count 36 = .ok (.ireturn, 1) := by decide +kernel
set_option maxRecDepth 20000 in
theorem ggX1_told_X1_takenPlaces : GoodIn wsX1_told wsX1_takenPlaces := goodIn_r _ [8, 9, 10, 11, 12, 13, 14, 15, 16] (by decide +kernel) (by decide +kernel)
set_option maxRecDepth 20000 in
theorem gX1_told_X1_takenPlaces : GoodIn wsX1_told (wsV RX1 70 RX1 yX1_takenPlaces wsX1_takenPlaces) := goodIn_app (goodIn_of _ (by decide +kernel)) ggX1_told_X1_takenPlaces
theorem dX1_told_0 : decode cX1_told 0 = .ok (.iload_n 1, 1) := by decide +kernel
theorem dX1_told_1 : decode cX1_told 1 = .ok (.tableswitch 51 0 3 #[31, 36, 41, 46], 31) := by decide +kernel
theorem dX1_told_32 : decode cX1_told 32 = .ok (.aload_n 0, 1) := by decide +kernel
theorem dX1_told_33 : decode cX1_told 33 = .ok (.getfield 67, 3) := by decide +kernel
theorem dX1_told_36 : decode cX1_told 36 = .ok (.ireturn, 1) := by decide +kernel
theorem dX1_told_37 : decode cX1_told 37 = .ok (.aload_n 0, 1) := by decide +kernel
theorem dX1_told_38 : decode cX1_told 38 = .ok (.getfield 43, 3) := by decide +kernel
theorem dX1_told_41 : decode cX1_told 41 = .ok (.ireturn, 1) := by decide +kernel
theorem dX1_told_42 : decode cX1_told 42 = .ok (.aload_n 0, 1) := by decide +kernel
theorem dX1_told_43 : decode cX1_told 43 = .ok (.getfield 58, 3) := by decide +kernel
theorem dX1_told_46 : decode cX1_told 46 = .ok (.ireturn, 1) := by decide +kernel
theorem dX1_told_47 : decode cX1_told 47 = .ok (.aload_n 0, 1) := by decide +kernel
theorem dX1_told_48 : decode cX1_told 48 = .ok (.invokevirtual 70, 3) := by decide +kernel
theorem dX1_told_51 : decode cX1_told 51 = .ok (.ireturn, 1) := by decide +kernel
theorem dX1_told_52 : decode cX1_told 52 = .ok (.iconst (-1), 1) := by decide +kernel
theorem dX1_told_53 : decode cX1_told 53 = .ok (.ireturn, 1) := by decide +kernel
theorem dX1_clear_0 : decode cX1_clear 0 = .ok (.aload_n 0, 1) := by decide +kernel
theorem dX1_clear_1 : decode cX1_clear 1 = .ok (.getfield 67, 3) := by decide +kernel
theorem dX1_clear_4 : decode cX1_clear 4 = .ok (.istore_n 1, 1) := by decide +kernel
theorem dX1_clear_5 : decode cX1_clear 5 = .ok (.iconst 0, 1) := by decide +kernel
theorem dX1_clear_6 : decode cX1_clear 6 = .ok (.istore_n 2, 1) := by decide +kernel
theorem dX1_clear_7 : decode cX1_clear 7 = .ok (.iload_n 2, 1) := by decide +kernel
theorem dX1_clear_8 : decode cX1_clear 8 = .ok (.bipush 8, 2) := by decide +kernel
theorem dX1_clear_10 : decode cX1_clear 10 = .ok (.if_icmp .ge 16, 3) := by decide +kernel
theorem dX1_clear_13 : decode cX1_clear 13 = .ok (.aload_n 0, 1) := by decide +kernel
theorem dX1_clear_14 : decode cX1_clear 14 = .ok (.getfield 9, 3) := by decide +kernel
theorem dX1_clear_17 : decode cX1_clear 17 = .ok (.iload_n 2, 1) := by decide +kernel
theorem dX1_clear_18 : decode cX1_clear 18 = .ok (.iconst 0, 1) := by decide +kernel
theorem dX1_clear_19 : decode cX1_clear 19 = .ok (.iastore, 1) := by decide +kernel
theorem dX1_clear_20 : decode cX1_clear 20 = .ok (.iinc 2 1, 3) := by decide +kernel
theorem dX1_clear_23 : decode cX1_clear 23 = .ok (.goto (-16), 3) := by decide +kernel
theorem dX1_clear_26 : decode cX1_clear 26 = .ok (.iconst 0, 1) := by decide +kernel
theorem dX1_clear_27 : decode cX1_clear 27 = .ok (.istore_n 2, 1) := by decide +kernel
theorem dX1_clear_28 : decode cX1_clear 28 = .ok (.iload_n 2, 1) := by decide +kernel
theorem dX1_clear_29 : decode cX1_clear 29 = .ok (.iconst 4, 1) := by decide +kernel
theorem dX1_clear_30 : decode cX1_clear 30 = .ok (.if_icmp .ge 18, 3) := by decide +kernel
theorem dX1_clear_33 : decode cX1_clear 33 = .ok (.aload_n 0, 1) := by decide +kernel
theorem dX1_clear_34 : decode cX1_clear 34 = .ok (.getfield 15, 3) := by decide +kernel
theorem dX1_clear_37 : decode cX1_clear 37 = .ok (.iload_n 2, 1) := by decide +kernel
theorem dX1_clear_38 : decode cX1_clear 38 = .ok (.iconst 0, 1) := by decide +kernel
theorem dX1_clear_39 : decode cX1_clear 39 = .ok (.newarray .int, 2) := by decide +kernel
theorem dX1_clear_41 : decode cX1_clear 41 = .ok (.aastore, 1) := by decide +kernel
theorem dX1_clear_42 : decode cX1_clear 42 = .ok (.iinc 2 1, 3) := by decide +kernel
theorem dX1_clear_45 : decode cX1_clear 45 = .ok (.goto (-17), 3) := by decide +kernel
theorem dX1_clear_48 : decode cX1_clear 48 = .ok (.iconst 0, 1) := by decide +kernel
theorem dX1_clear_49 : decode cX1_clear 49 = .ok (.istore_n 2, 1) := by decide +kernel
theorem dX1_clear_50 : decode cX1_clear 50 = .ok (.iload_n 2, 1) := by decide +kernel
theorem dX1_clear_51 : decode cX1_clear 51 = .ok (.bipush 16, 2) := by decide +kernel
theorem dX1_clear_53 : decode cX1_clear 53 = .ok (.if_icmp .ge 16, 3) := by decide +kernel
theorem dX1_clear_56 : decode cX1_clear 56 = .ok (.aload_n 0, 1) := by decide +kernel
theorem dX1_clear_57 : decode cX1_clear 57 = .ok (.getfield 20, 3) := by decide +kernel
theorem dX1_clear_60 : decode cX1_clear 60 = .ok (.iload_n 2, 1) := by decide +kernel
theorem dX1_clear_61 : decode cX1_clear 61 = .ok (.aconst_null, 1) := by decide +kernel
theorem dX1_clear_62 : decode cX1_clear 62 = .ok (.aastore, 1) := by decide +kernel
theorem dX1_clear_63 : decode cX1_clear 63 = .ok (.iinc 2 1, 3) := by decide +kernel
theorem dX1_clear_66 : decode cX1_clear 66 = .ok (.goto (-16), 3) := by decide +kernel
theorem dX1_clear_69 : decode cX1_clear 69 = .ok (.aload_n 0, 1) := by decide +kernel
theorem dX1_clear_70 : decode cX1_clear 70 = .ok (.iconst 0, 1) := by decide +kernel
theorem dX1_clear_71 : decode cX1_clear 71 = .ok (.putfield 67, 3) := by decide +kernel
theorem dX1_clear_74 : decode cX1_clear 74 = .ok (.aload_n 0, 1) := by decide +kernel
theorem dX1_clear_75 : decode cX1_clear 75 = .ok (.iconst 0, 1) := by decide +kernel
theorem dX1_clear_76 : decode cX1_clear 76 = .ok (.putfield 43, 3) := by decide +kernel
theorem dX1_clear_79 : decode cX1_clear 79 = .ok (.aload_n 0, 1) := by decide +kernel
theorem dX1_clear_80 : decode cX1_clear 80 = .ok (.iconst 0, 1) := by decide +kernel
theorem dX1_clear_81 : decode cX1_clear 81 = .ok (.putfield 58, 3) := by decide +kernel
theorem dX1_clear_84 : decode cX1_clear 84 = .ok (.aload_n 0, 1) := by decide +kernel
theorem dX1_clear_85 : decode cX1_clear 85 = .ok (.iconst 0, 1) := by decide +kernel
theorem dX1_clear_86 : decode cX1_clear 86 = .ok (.putfield 47, 3) := by decide +kernel
theorem dX1_clear_89 : decode cX1_clear 89 = .ok (.iload_n 1, 1) := by decide +kernel
theorem dX1_clear_90 : decode cX1_clear 90 = .ok (.ireturn, 1) := by decide +kernel
theorem dX1_isBelow_0 : decode cX1_isBelow 0 = .ok (.iload_n 0, 1) := by decide +kernel
theorem dX1_isBelow_1 : decode cX1_isBelow 1 = .ok (.ifCond .lt 12, 3) := by decide +kernel
theorem dX1_isBelow_4 : decode cX1_isBelow 4 = .ok (.iload_n 0, 1) := by decide +kernel
theorem dX1_isBelow_5 : decode cX1_isBelow 5 = .ok (.iload_n 1, 1) := by decide +kernel
theorem dX1_isBelow_6 : decode cX1_isBelow 6 = .ok (.if_icmp .ge 7, 3) := by decide +kernel
theorem dX1_isBelow_9 : decode cX1_isBelow 9 = .ok (.iconst 1, 1) := by decide +kernel
theorem dX1_isBelow_10 : decode cX1_isBelow 10 = .ok (.goto 4, 3) := by decide +kernel
theorem dX1_isBelow_13 : decode cX1_isBelow 13 = .ok (.iconst 0, 1) := by decide +kernel
theorem dX1_isBelow_14 : decode cX1_isBelow 14 = .ok (.ireturn, 1) := by decide +kernel
set_option maxRecDepth 20000 in
theorem ggX1_isPlace_X1_isBelow : GoodIn wsX1_isPlace wsX1_isBelow := goodIn_r _ [4] (by decide +kernel) (by decide +kernel)
set_option maxRecDepth 20000 in
theorem gX1_isPlace_X1_isBelow : GoodIn wsX1_isPlace (va_wsS RX1 24 yX1_isBelow wsX1_isBelow) := goodIn_app (goodIn_of _ (by decide +kernel)) ggX1_isPlace_X1_isBelow
theorem dX1_isPlace_0 : decode cX1_isPlace 0 = .ok (.iload_n 0, 1) := by decide +kernel
theorem dX1_isPlace_1 : decode cX1_isPlace 1 = .ok (.bipush 16, 2) := by decide +kernel
theorem dX1_isPlace_3 : decode cX1_isPlace 3 = .ok (.invokestatic 24, 3) := by decide +kernel
theorem dX1_isPlace_6 : decode cX1_isPlace 6 = .ok (.ireturn, 1) := by decide +kernel
set_option maxRecDepth 20000 in
theorem ggX1_rateNow_X1_isBelow : GoodIn wsX1_rateNow wsX1_isBelow := goodIn_r _ [5] (by decide +kernel) (by decide +kernel)
set_option maxRecDepth 20000 in
theorem gX1_rateNow_X1_isBelow : GoodIn wsX1_rateNow (va_wsS RX1 24 yX1_isBelow wsX1_isBelow) := goodIn_app (goodIn_of _ (by decide +kernel)) ggX1_rateNow_X1_isBelow
theorem dX1_rateNow_0 : decode cX1_rateNow 0 = .ok (.iload_n 1, 1) := by decide +kernel
theorem dX1_rateNow_1 : decode cX1_rateNow 1 = .ok (.bipush 8, 2) := by decide +kernel
theorem dX1_rateNow_3 : decode cX1_rateNow 3 = .ok (.invokestatic 24, 3) := by decide +kernel
theorem dX1_rateNow_6 : decode cX1_rateNow 6 = .ok (.ifCond .eq 12, 3) := by decide +kernel
theorem dX1_rateNow_9 : decode cX1_rateNow 9 = .ok (.aload_n 0, 1) := by decide +kernel
theorem dX1_rateNow_10 : decode cX1_rateNow 10 = .ok (.getfield 9, 3) := by decide +kernel
theorem dX1_rateNow_13 : decode cX1_rateNow 13 = .ok (.iload_n 1, 1) := by decide +kernel
theorem dX1_rateNow_14 : decode cX1_rateNow 14 = .ok (.iaload, 1) := by decide +kernel
theorem dX1_rateNow_15 : decode cX1_rateNow 15 = .ok (.goto 4, 3) := by decide +kernel
theorem dX1_rateNow_18 : decode cX1_rateNow 18 = .ok (.iconst 0, 1) := by decide +kernel
theorem dX1_rateNow_19 : decode cX1_rateNow 19 = .ok (.ireturn, 1) := by decide +kernel
set_option maxRecDepth 20000 in
theorem ggX1_ruleNow_X1_isPlace : GoodIn wsX1_ruleNow wsX1_isPlace := goodIn_r _ [5, 6, 7, 4, 8] (by decide +kernel) (by decide +kernel)
set_option maxRecDepth 20000 in
theorem gX1_ruleNow_X1_isPlace : GoodIn wsX1_ruleNow (va_wsS RX1 28 yX1_isPlace wsX1_isPlace) := goodIn_app (goodIn_of _ (by decide +kernel)) ggX1_ruleNow_X1_isPlace
theorem dX1_ruleNow_0 : decode cX1_ruleNow 0 = .ok (.iload_n 1, 1) := by decide +kernel
theorem dX1_ruleNow_1 : decode cX1_ruleNow 1 = .ok (.invokestatic 28, 3) := by decide +kernel
theorem dX1_ruleNow_4 : decode cX1_ruleNow 4 = .ok (.ifCond .eq 12, 3) := by decide +kernel
theorem dX1_ruleNow_7 : decode cX1_ruleNow 7 = .ok (.aload_n 0, 1) := by decide +kernel
theorem dX1_ruleNow_8 : decode cX1_ruleNow 8 = .ok (.getfield 20, 3) := by decide +kernel
theorem dX1_ruleNow_11 : decode cX1_ruleNow 11 = .ok (.iload_n 1, 1) := by decide +kernel
theorem dX1_ruleNow_12 : decode cX1_ruleNow 12 = .ok (.aaload, 1) := by decide +kernel
theorem dX1_ruleNow_13 : decode cX1_ruleNow 13 = .ok (.goto 4, 3) := by decide +kernel
theorem dX1_ruleNow_16 : decode cX1_ruleNow 16 = .ok (.aconst_null, 1) := by decide +kernel
theorem dX1_ruleNow_17 : decode cX1_ruleNow 17 = .ok (.areturn, 1) := by decide +kernel
theorem dX1_takenPlaces_0 : decode cX1_takenPlaces 0 = .ok (.iconst 0, 1) := by decide +kernel
theorem dX1_takenPlaces_1 : decode cX1_takenPlaces 1 = .ok (.istore_n 1, 1) := by decide +kernel
theorem dX1_takenPlaces_2 : decode cX1_takenPlaces 2 = .ok (.iconst 0, 1) := by decide +kernel
theorem dX1_takenPlaces_3 : decode cX1_takenPlaces 3 = .ok (.istore_n 2, 1) := by decide +kernel
theorem dX1_takenPlaces_4 : decode cX1_takenPlaces 4 = .ok (.iload_n 2, 1) := by decide +kernel
theorem dX1_takenPlaces_5 : decode cX1_takenPlaces 5 = .ok (.bipush 16, 2) := by decide +kernel
theorem dX1_takenPlaces_7 : decode cX1_takenPlaces 7 = .ok (.if_icmp .ge 21, 3) := by decide +kernel
theorem dX1_takenPlaces_10 : decode cX1_takenPlaces 10 = .ok (.aload_n 0, 1) := by decide +kernel
theorem dX1_takenPlaces_11 : decode cX1_takenPlaces 11 = .ok (.getfield 20, 3) := by decide +kernel
theorem dX1_takenPlaces_14 : decode cX1_takenPlaces 14 = .ok (.iload_n 2, 1) := by decide +kernel
theorem dX1_takenPlaces_15 : decode cX1_takenPlaces 15 = .ok (.aaload, 1) := by decide +kernel
theorem dX1_takenPlaces_16 : decode cX1_takenPlaces 16 = .ok (.ifnull 6, 3) := by decide +kernel
theorem dX1_takenPlaces_19 : decode cX1_takenPlaces 19 = .ok (.iinc 1 1, 3) := by decide +kernel
theorem dX1_takenPlaces_22 : decode cX1_takenPlaces 22 = .ok (.iinc 2 1, 3) := by decide +kernel
theorem dX1_takenPlaces_25 : decode cX1_takenPlaces 25 = .ok (.goto (-21), 3) := by decide +kernel
theorem dX1_takenPlaces_28 : decode cX1_takenPlaces 28 = .ok (.iload_n 1, 1) := by decide +kernel
theorem dX1_takenPlaces_29 : decode cX1_takenPlaces 29 = .ok (.ireturn, 1) := by decide +kernel
theorem dX1_stand_0 : decode cX1_stand 0 = .ok (.aload_n 0, 1) := by decide +kernel
theorem dX1_stand_1 : decode cX1_stand 1 = .ok (.getfield 20, 3) := by decide +kernel
theorem dX1_stand_4 : decode cX1_stand 4 = .ok (.iload_n 1, 1) := by decide +kernel
theorem dX1_stand_5 : decode cX1_stand 5 = .ok (.aload_n 2, 1) := by decide +kernel
theorem dX1_stand_6 : decode cX1_stand 6 = .ok (.aastore, 1) := by decide +kernel
theorem dX1_stand_7 : decode cX1_stand 7 = .ok (.aload_n 0, 1) := by decide +kernel
theorem dX1_stand_8 : decode cX1_stand 8 = .ok (.dup, 1) := by decide +kernel
theorem dX1_stand_9 : decode cX1_stand 9 = .ok (.getfield 67, 3) := by decide +kernel
theorem dX1_stand_12 : decode cX1_stand 12 = .ok (.iconst 1, 1) := by decide +kernel
theorem dX1_stand_13 : decode cX1_stand 13 = .ok (.iadd, 1) := by decide +kernel
theorem dX1_stand_14 : decode cX1_stand 14 = .ok (.putfield 67, 3) := by decide +kernel
theorem dX1_stand_17 : decode cX1_stand 17 = .ok (.aload_n 0, 1) := by decide +kernel
theorem dX1_stand_18 : decode cX1_stand 18 = .ok (.getfield 67, 3) := by decide +kernel
theorem dX1_stand_21 : decode cX1_stand 21 = .ok (.ireturn, 1) := by decide +kernel
set_option maxRecDepth 20000 in
theorem ggX1_standOver_X1_isPlace : GoodIn wsX1_standOver wsX1_isPlace := goodIn_r _ [8, 9, 10, 7, 11] (by decide +kernel) (by decide +kernel)
set_option maxRecDepth 20000 in
theorem gX1_standOver_X1_isPlace : GoodIn wsX1_standOver (va_wsS RX1 28 yX1_isPlace wsX1_isPlace) := goodIn_app (goodIn_of _ (by decide +kernel)) ggX1_standOver_X1_isPlace
set_option maxRecDepth 20000 in
theorem ggX1_standOver_X0_init_ : GoodIn wsX1_standOver wsX0_init_ := goodIn_r _ [14, 15, 16, 17, 18, 19, 20, 21, 22, 23, 36, 37, 38, 39, 40, 41, 42, 43, 44, 45, 46] (by decide +kernel) (by decide +kernel)
set_option maxRecDepth 20000 in
theorem gX1_standOver_X0_init_ : GoodIn wsX1_standOver (wsX0_init_) := ggX1_standOver_X0_init_
set_option maxRecDepth 20000 in
theorem ggX1_standOver_X1_stand : GoodIn wsX1_standOver wsX1_stand := goodIn_r _ [27, 1, 28, 29, 30, 31, 32, 33, 34, 35] (by decide +kernel) (by decide +kernel)
set_option maxRecDepth 20000 in
theorem gX1_standOver_X1_stand : GoodIn wsX1_standOver (wsV RX1 35 RX1 yX1_stand wsX1_stand) := goodIn_app (goodIn_of _ (by decide +kernel)) ggX1_standOver_X1_stand
theorem dX1_standOver_0 : decode cX1_standOver 0 = .ok (.iload_n 1, 1) := by decide +kernel
theorem dX1_standOver_1 : decode cX1_standOver 1 = .ok (.invokestatic 28, 3) := by decide +kernel
theorem dX1_standOver_4 : decode cX1_standOver 4 = .ok (.ifCond .eq 27, 3) := by decide +kernel
theorem dX1_standOver_7 : decode cX1_standOver 7 = .ok (.iload 4, 2) := by decide +kernel
theorem dX1_standOver_9 : decode cX1_standOver 9 = .ok (.invokestatic 28, 3) := by decide +kernel
theorem dX1_standOver_12 : decode cX1_standOver 12 = .ok (.ifCond .eq 19, 3) := by decide +kernel
theorem dX1_standOver_15 : decode cX1_standOver 15 = .ok (.iload 5, 2) := by decide +kernel
theorem dX1_standOver_17 : decode cX1_standOver 17 = .ok (.invokestatic 28, 3) := by decide +kernel
theorem dX1_standOver_20 : decode cX1_standOver 20 = .ok (.ifCond .eq 11, 3) := by decide +kernel
theorem dX1_standOver_23 : decode cX1_standOver 23 = .ok (.iload 6, 2) := by decide +kernel
theorem dX1_standOver_25 : decode cX1_standOver 25 = .ok (.invokestatic 28, 3) := by decide +kernel
theorem dX1_standOver_28 : decode cX1_standOver 28 = .ok (.ifCond .ne 5, 3) := by decide +kernel
theorem dX1_standOver_31 : decode cX1_standOver 31 = .ok (.iconst (-1), 1) := by decide +kernel
theorem dX1_standOver_32 : decode cX1_standOver 32 = .ok (.ireturn, 1) := by decide +kernel
theorem dX1_standOver_33 : decode cX1_standOver 33 = .ok (.aload_n 0, 1) := by decide +kernel
theorem dX1_standOver_34 : decode cX1_standOver 34 = .ok (.getfield 20, 3) := by decide +kernel
theorem dX1_standOver_37 : decode cX1_standOver 37 = .ok (.iload 4, 2) := by decide +kernel
theorem dX1_standOver_39 : decode cX1_standOver 39 = .ok (.aaload, 1) := by decide +kernel
theorem dX1_standOver_40 : decode cX1_standOver 40 = .ok (.ifnull 23, 3) := by decide +kernel
theorem dX1_standOver_43 : decode cX1_standOver 43 = .ok (.aload_n 0, 1) := by decide +kernel
theorem dX1_standOver_44 : decode cX1_standOver 44 = .ok (.getfield 20, 3) := by decide +kernel
theorem dX1_standOver_47 : decode cX1_standOver 47 = .ok (.iload 5, 2) := by decide +kernel
theorem dX1_standOver_49 : decode cX1_standOver 49 = .ok (.aaload, 1) := by decide +kernel
theorem dX1_standOver_50 : decode cX1_standOver 50 = .ok (.ifnull 13, 3) := by decide +kernel
theorem dX1_standOver_53 : decode cX1_standOver 53 = .ok (.aload_n 0, 1) := by decide +kernel
theorem dX1_standOver_54 : decode cX1_standOver 54 = .ok (.getfield 20, 3) := by decide +kernel
theorem dX1_standOver_57 : decode cX1_standOver 57 = .ok (.iload 6, 2) := by decide +kernel
theorem dX1_standOver_59 : decode cX1_standOver 59 = .ok (.aaload, 1) := by decide +kernel
theorem dX1_standOver_60 : decode cX1_standOver 60 = .ok (.ifnonnull 6, 3) := by decide +kernel
theorem dX1_standOver_63 : decode cX1_standOver 63 = .ok (.bipush (-2), 2) := by decide +kernel
theorem dX1_standOver_65 : decode cX1_standOver 65 = .ok (.ireturn, 1) := by decide +kernel
theorem dX1_standOver_66 : decode cX1_standOver 66 = .ok (.aload_n 0, 1) := by decide +kernel
theorem dX1_standOver_67 : decode cX1_standOver 67 = .ok (.iload_n 1, 1) := by decide +kernel
theorem dX1_standOver_68 : decode cX1_standOver 68 = .ok (.new 18, 3) := by decide +kernel
theorem dX1_standOver_71 : decode cX1_standOver 71 = .ok (.dup, 1) := by decide +kernel
theorem dX1_standOver_72 : decode cX1_standOver 72 = .ok (.iload_n 2, 1) := by decide +kernel
theorem dX1_standOver_73 : decode cX1_standOver 73 = .ok (.iload_n 3, 1) := by decide +kernel
theorem dX1_standOver_74 : decode cX1_standOver 74 = .ok (.aload_n 0, 1) := by decide +kernel
theorem dX1_standOver_75 : decode cX1_standOver 75 = .ok (.getfield 20, 3) := by decide +kernel
theorem dX1_standOver_78 : decode cX1_standOver 78 = .ok (.iload 4, 2) := by decide +kernel
theorem dX1_standOver_80 : decode cX1_standOver 80 = .ok (.aaload, 1) := by decide +kernel
theorem dX1_standOver_81 : decode cX1_standOver 81 = .ok (.aload_n 0, 1) := by decide +kernel
theorem dX1_standOver_82 : decode cX1_standOver 82 = .ok (.getfield 20, 3) := by decide +kernel
theorem dX1_standOver_85 : decode cX1_standOver 85 = .ok (.iload 5, 2) := by decide +kernel
theorem dX1_standOver_87 : decode cX1_standOver 87 = .ok (.aaload, 1) := by decide +kernel
theorem dX1_standOver_88 : decode cX1_standOver 88 = .ok (.aload_n 0, 1) := by decide +kernel
theorem dX1_standOver_89 : decode cX1_standOver 89 = .ok (.getfield 20, 3) := by decide +kernel
theorem dX1_standOver_92 : decode cX1_standOver 92 = .ok (.iload 6, 2) := by decide +kernel
theorem dX1_standOver_94 : decode cX1_standOver 94 = .ok (.aaload, 1) := by decide +kernel
theorem dX1_standOver_95 : decode cX1_standOver 95 = .ok (.invokespecial 74, 3) := by decide +kernel
theorem dX1_standOver_98 : decode cX1_standOver 98 = .ok (.invokevirtual 35, 3) := by decide +kernel
theorem dX1_standOver_101 : decode cX1_standOver 101 = .ok (.ireturn, 1) := by decide +kernel
theorem dX1_fail_0 : decode cX1_fail 0 = .ok (.aload_n 0, 1) := by decide +kernel
theorem dX1_fail_1 : decode cX1_fail 1 = .ok (.iload_n 1, 1) := by decide +kernel
theorem dX1_fail_2 : decode cX1_fail 2 = .ok (.putfield 47, 3) := by decide +kernel
theorem dX1_fail_5 : decode cX1_fail 5 = .ok (.lconst 0, 1) := by decide +kernel
theorem dX1_fail_6 : decode cX1_fail 6 = .ok (.lreturn, 1) := by decide +kernel
set_option maxRecDepth 20000 in
theorem ggX1_answer_X1_fail : GoodIn wsX1_answer wsX1_fail := goodIn_r _ [6, 7, 78, 79, 80, 81, 82, 83, 84] (by decide +kernel) (by decide +kernel)
set_option maxRecDepth 20000 in
theorem gX1_answer_X1_fail : GoodIn wsX1_answer (wsV RX1 50 RX1 yX1_fail wsX1_fail) := goodIn_app (goodIn_of _ (by decide +kernel)) ggX1_answer_X1_fail
set_option maxRecDepth 20000 in
theorem ggX1_answer_X1_answerByKind : GoodIn wsX1_answer wsX1_answerByKind := goodIn_r _ [11, 12, 13, 14, 15, 16, 17, 5, 18, 19, 20, 21, 22, 23, 24, 25, 26, 27, 2, 3, 4, 6, 7, 28, 29, 30, 31, 32, 33, 34, 35, 36, 37, 38, 39, 40, 41, 42, 43, 44, 45, 46, 47, 48, 49, 50, 51, 52, 53, 54, 55, 56, 0, 1, 8, 9, 10, 57, 58, 59, 60, 61, 62, 63, 64, 65, 66, 67, 68, 69, 70, 71, 72, 73, 74, 75, 76, 77, 78, 79, 80, 81, 82, 83, 84, 85, 86, 87, 88, 89, 90, 91, 92, 93, 94, 95] (by decide +kernel) (by decide +kernel)
set_option maxRecDepth 20000 in
theorem gX1_answer_X1_answerByKind : GoodIn wsX1_answer (wsV RX1 77 RX1 yX1_answerByKind wsX1_answerByKind) := goodIn_app (goodIn_of _ (by decide +kernel)) ggX1_answer_X1_answerByKind
theorem dX1_answer_0 : decode cX1_answer 0 = .ok (.aload_n 0, 1) := by decide +kernel
theorem dX1_answer_1 : decode cX1_answer 1 = .ok (.getfield 43, 3) := by decide +kernel
theorem dX1_answer_4 : decode cX1_answer 4 = .ok (.bipush 80, 2) := by decide +kernel
theorem dX1_answer_6 : decode cX1_answer 6 = .ok (.if_icmp .lt 10, 3) := by decide +kernel
theorem dX1_answer_9 : decode cX1_answer 9 = .ok (.aload_n 0, 1) := by decide +kernel
theorem dX1_answer_10 : decode cX1_answer 10 = .ok (.bipush (-6), 2) := by decide +kernel
theorem dX1_answer_12 : decode cX1_answer 12 = .ok (.invokevirtual 50, 3) := by decide +kernel
theorem dX1_answer_15 : decode cX1_answer 15 = .ok (.lreturn, 1) := by decide +kernel
theorem dX1_answer_16 : decode cX1_answer 16 = .ok (.aload_n 0, 1) := by decide +kernel
theorem dX1_answer_17 : decode cX1_answer 17 = .ok (.dup, 1) := by decide +kernel
theorem dX1_answer_18 : decode cX1_answer 18 = .ok (.getfield 43, 3) := by decide +kernel
theorem dX1_answer_21 : decode cX1_answer 21 = .ok (.iconst 1, 1) := by decide +kernel
theorem dX1_answer_22 : decode cX1_answer 22 = .ok (.iadd, 1) := by decide +kernel
theorem dX1_answer_23 : decode cX1_answer 23 = .ok (.putfield 43, 3) := by decide +kernel
theorem dX1_answer_26 : decode cX1_answer 26 = .ok (.iload 4, 2) := by decide +kernel
theorem dX1_answer_28 : decode cX1_answer 28 = .ok (.bipush 24, 2) := by decide +kernel
theorem dX1_answer_30 : decode cX1_answer 30 = .ok (.if_icmp .lt 10, 3) := by decide +kernel
theorem dX1_answer_33 : decode cX1_answer 33 = .ok (.aload_n 0, 1) := by decide +kernel
theorem dX1_answer_34 : decode cX1_answer 34 = .ok (.bipush (-7), 2) := by decide +kernel
theorem dX1_answer_36 : decode cX1_answer 36 = .ok (.invokevirtual 50, 3) := by decide +kernel
theorem dX1_answer_39 : decode cX1_answer 39 = .ok (.lreturn, 1) := by decide +kernel
theorem dX1_answer_40 : decode cX1_answer 40 = .ok (.aload_n 1, 1) := by decide +kernel
theorem dX1_answer_41 : decode cX1_answer 41 = .ok (.ifnonnull 10, 3) := by decide +kernel
theorem dX1_answer_44 : decode cX1_answer 44 = .ok (.aload_n 0, 1) := by decide +kernel
theorem dX1_answer_45 : decode cX1_answer 45 = .ok (.bipush (-2), 2) := by decide +kernel
theorem dX1_answer_47 : decode cX1_answer 47 = .ok (.invokevirtual 50, 3) := by decide +kernel
theorem dX1_answer_50 : decode cX1_answer 50 = .ok (.lreturn, 1) := by decide +kernel
theorem dX1_answer_51 : decode cX1_answer 51 = .ok (.aload_n 0, 1) := by decide +kernel
theorem dX1_answer_52 : decode cX1_answer 52 = .ok (.aload_n 1, 1) := by decide +kernel
theorem dX1_answer_53 : decode cX1_answer 53 = .ok (.iload_n 2, 1) := by decide +kernel
theorem dX1_answer_54 : decode cX1_answer 54 = .ok (.iload_n 3, 1) := by decide +kernel
theorem dX1_answer_55 : decode cX1_answer 55 = .ok (.iload 4, 2) := by decide +kernel
theorem dX1_answer_57 : decode cX1_answer 57 = .ok (.iconst 1, 1) := by decide +kernel
theorem dX1_answer_58 : decode cX1_answer 58 = .ok (.iadd, 1) := by decide +kernel
theorem dX1_answer_59 : decode cX1_answer 59 = .ok (.invokevirtual 77, 3) := by decide +kernel
theorem dX1_answer_62 : decode cX1_answer 62 = .ok (.lreturn, 1) := by decide +kernel
set_option maxRecDepth 20000 in
theorem ggX1_answerByKind_X1_rateNow : GoodIn wsX1_answerByKind wsX1_rateNow := goodIn_r _ [8, 9, 10, 11, 7, 12, 78, 79, 80, 81, 82, 83, 84] (by decide +kernel) (by decide +kernel)
set_option maxRecDepth 20000 in
theorem gX1_answerByKind_X1_rateNow : GoodIn wsX1_answerByKind (wsV RX1 83 RX1 yX1_rateNow wsX1_rateNow) := goodIn_app (goodIn_of _ (by decide +kernel)) ggX1_answerByKind_X1_rateNow
set_option maxRecDepth 20000 in
theorem ggX1_answerByKind_X1_answerBooked : GoodIn wsX1_answerByKind wsX1_answerBooked := goodIn_r _ [16, 17, 10, 11, 7, 12, 18, 19, 20, 21, 22, 85, 86, 87, 88, 89, 90, 91, 92, 93, 94, 95, 78, 79, 80, 81, 82, 83, 84] (by decide +kernel) (by decide +kernel)
set_option maxRecDepth 20000 in
theorem gX1_answerByKind_X1_answerBooked : GoodIn wsX1_answerByKind (wsV RX1 87 RX1 yX1_answerBooked wsX1_answerBooked) := goodIn_app (goodIn_of _ (by decide +kernel)) ggX1_answerByKind_X1_answerBooked
set_option maxRecDepth 20000 in
theorem ggX1_answerByKind_X1_answerJoined : GoodIn wsX1_answerByKind wsX1_answerJoined := goodIn_r _ [62, 3, 22, 60, 2, 29, 30, 31, 7, 63, 64, 65, 66, 67, 68, 69, 70, 18, 19, 20, 21, 52, 53, 54, 55, 56, 0, 1, 4, 5, 6, 8, 9, 10, 11, 12, 13, 14, 15, 16, 17, 23, 24, 25, 26, 27, 28, 32, 33, 34, 35, 36, 37, 38, 39, 40, 41, 42, 43, 44, 45, 46, 47, 48, 49, 50, 51, 57, 58, 59, 61, 71, 72, 73, 74, 75, 76, 77, 78, 79, 80, 81, 82, 83, 84, 85, 86, 87, 88, 89, 90, 91, 92, 93, 94, 95] (by decide +kernel) (by decide +kernel)
set_option maxRecDepth 20000 in
theorem gX1_answerByKind_X1_answerJoined : GoodIn wsX1_answerByKind (wsV RX1 91 RX1 yX1_answerJoined wsX1_answerJoined) := goodIn_app (goodIn_of _ (by decide +kernel)) ggX1_answerByKind_X1_answerJoined
set_option maxRecDepth 20000 in
theorem ggX1_answerByKind_X1_answerWhen : GoodIn wsX1_answerByKind wsX1_answerWhen := goodIn_r _ [76, 3, 22, 60, 77, 29, 30, 31, 7, 52, 53, 18, 19, 20, 21, 54, 55, 56, 0, 1, 2, 4, 5, 6, 8, 9, 10, 11, 12, 13, 14, 15, 16, 17, 23, 24, 25, 26, 27, 28, 32, 33, 34, 35, 36, 37, 38, 39, 40, 41, 42, 43, 44, 45, 46, 47, 48, 49, 50, 51, 57, 58, 59, 61, 62, 63, 64, 65, 66, 67, 68, 69, 70, 71, 72, 73, 74, 75, 78, 79, 80, 81, 82, 83, 84, 85, 86, 87, 88, 89, 90, 91, 92, 93, 94, 95] (by decide +kernel) (by decide +kernel)
set_option maxRecDepth 20000 in
theorem gX1_answerByKind_X1_answerWhen : GoodIn wsX1_answerByKind (wsV RX1 94 RX1 yX1_answerWhen wsX1_answerWhen) := goodIn_app (goodIn_of _ (by decide +kernel)) ggX1_answerByKind_X1_answerWhen
set_option maxRecDepth 20000 in
theorem ggX1_answerByKind_X1_answer : GoodIn wsX1_answerByKind wsX1_answer := goodIn_r _ [52, 53, 18, 19, 20, 7, 21, 22, 54, 55, 56, 0, 1, 2, 3, 4, 5, 6, 8, 9, 10, 11, 12, 13, 14, 15, 16, 17, 23, 24, 25, 26, 27, 28, 29, 30, 31, 32, 33, 34, 35, 36, 37, 38, 39, 40, 41, 42, 43, 44, 45, 46, 47, 48, 49, 50, 51, 57, 58, 59, 60, 61, 62, 63, 64, 65, 66, 67, 68, 69, 70, 71, 72, 73, 74, 75, 76, 77, 78, 79, 80, 81, 82, 83, 84, 85, 86, 87, 88, 89, 90, 91, 92, 93, 94, 95] (by decide +kernel) (by decide +kernel)
set_option maxRecDepth 20000 in
theorem gX1_answerByKind_X1_answer : GoodIn wsX1_answerByKind (wsV RX1 54 RX1 yX1_answer wsX1_answer) := goodIn_app (goodIn_of _ (by decide +kernel)) ggX1_answerByKind_X1_answer
set_option maxRecDepth 20000 in
theorem ggX1_answerByKind_X1_answerFed : GoodIn wsX1_answerByKind wsX1_answerFed := goodIn_r _ [59, 60, 22, 3, 29, 30, 31, 7, 52, 53, 18, 19, 20, 21, 54, 55, 56, 0, 1, 2, 4, 5, 6, 8, 9, 10, 11, 12, 13, 14, 15, 16, 17, 23, 24, 25, 26, 27, 28, 32, 33, 34, 35, 36, 37, 38, 39, 40, 41, 42, 43, 44, 45, 46, 47, 48, 49, 50, 51, 57, 58, 61, 62, 63, 64, 65, 66, 67, 68, 69, 70, 71, 72, 73, 74, 75, 76, 77, 78, 79, 80, 81, 82, 83, 84, 85, 86, 87, 88, 89, 90, 91, 92, 93, 94, 95] (by decide +kernel) (by decide +kernel)
set_option maxRecDepth 20000 in
theorem gX1_answerByKind_X1_answerFed : GoodIn wsX1_answerByKind (wsV RX1 101 RX1 yX1_answerFed wsX1_answerFed) := goodIn_app (goodIn_of _ (by decide +kernel)) ggX1_answerByKind_X1_answerFed
set_option maxRecDepth 20000 in
theorem ggX1_answerByKind_X1_answerGuarded : GoodIn wsX1_answerByKind wsX1_answerGuarded := goodIn_r _ [61, 3, 22, 60, 29, 30, 31, 7, 52, 53, 18, 19, 20, 21, 54, 55, 56, 0, 1, 2, 4, 5, 6, 8, 9, 10, 11, 12, 13, 14, 15, 16, 17, 23, 24, 25, 26, 27, 28, 32, 33, 34, 35, 36, 37, 38, 39, 40, 41, 42, 43, 44, 45, 46, 47, 48, 49, 50, 51, 57, 58, 59, 62, 63, 64, 65, 66, 67, 68, 69, 70, 71, 72, 73, 74, 75, 76, 77, 78, 79, 80, 81, 82, 83, 84, 85, 86, 87, 88, 89, 90, 91, 92, 93, 94, 95] (by decide +kernel) (by decide +kernel)
set_option maxRecDepth 20000 in
theorem gX1_answerByKind_X1_answerGuarded : GoodIn wsX1_answerByKind (wsV RX1 104 RX1 yX1_answerGuarded wsX1_answerGuarded) := goodIn_app (goodIn_of _ (by decide +kernel)) ggX1_answerByKind_X1_answerGuarded
set_option maxRecDepth 20000 in
theorem ggX1_answerByKind_X1_ruleNow : GoodIn wsX1_answerByKind wsX1_ruleNow := goodIn_r _ [41, 42, 43, 44, 7, 45, 10, 11, 12, 78, 79, 80, 81, 82, 83, 84] (by decide +kernel) (by decide +kernel)
set_option maxRecDepth 20000 in
theorem gX1_answerByKind_X1_ruleNow : GoodIn wsX1_answerByKind (wsV RX1 107 RX1 yX1_ruleNow wsX1_ruleNow) := goodIn_app (goodIn_of _ (by decide +kernel)) ggX1_answerByKind_X1_ruleNow
set_option maxRecDepth 20000 in
theorem ggX1_answerByKind_X1_fail : GoodIn wsX1_answerByKind wsX1_fail := goodIn_r _ [21, 22, 78, 79, 80, 81, 82, 83, 84] (by decide +kernel) (by decide +kernel)
set_option maxRecDepth 20000 in
theorem gX1_answerByKind_X1_fail : GoodIn wsX1_answerByKind (wsV RX1 50 RX1 yX1_fail wsX1_fail) := goodIn_app (goodIn_of _ (by decide +kernel)) ggX1_answerByKind_X1_fail
set_option maxRecDepth 20000 in
theorem ggX1_answerByKind_X1_answerCounted : GoodIn wsX1_answerByKind wsX1_answerCounted := goodIn_r _ [57, 58, 3, 22, 29, 30, 31, 7, 52, 53, 18, 19, 20, 21, 54, 55, 56, 0, 1, 2, 4, 5, 6, 8, 9, 10, 11, 12, 13, 14, 15, 16, 17, 23, 24, 25, 26, 27, 28, 32, 33, 34, 35, 36, 37, 38, 39, 40, 41, 42, 43, 44, 45, 46, 47, 48, 49, 50, 51, 59, 60, 61, 62, 63, 64, 65, 66, 67, 68, 69, 70, 71, 72, 73, 74, 75, 76, 77, 78, 79, 80, 81, 82, 83, 84, 85, 86, 87, 88, 89, 90, 91, 92, 93, 94, 95] (by decide +kernel) (by decide +kernel)
set_option maxRecDepth 20000 in
theorem gX1_answerByKind_X1_answerCounted : GoodIn wsX1_answerByKind (wsV RX1 111 RX1 yX1_answerCounted wsX1_answerCounted) := goodIn_app (goodIn_of _ (by decide +kernel)) ggX1_answerByKind_X1_answerCounted
set_option maxRecDepth 20000 in
theorem ggX1_answerByKind_X1_answerKept : GoodIn wsX1_answerByKind wsX1_answerKept := goodIn_r _ [71, 72, 73, 74, 75, 3, 22, 29, 30, 31, 7, 52, 53, 18, 19, 20, 21, 54, 55, 56, 0, 1, 2, 4, 5, 6, 8, 9, 10, 11, 12, 13, 14, 15, 16, 17, 23, 24, 25, 26, 27, 28, 32, 33, 34, 35, 36, 37, 38, 39, 40, 41, 42, 43, 44, 45, 46, 47, 48, 49, 50, 51, 57, 58, 59, 60, 61, 62, 63, 64, 65, 66, 67, 68, 69, 70, 76, 77, 78, 79, 80, 81, 82, 83, 84, 85, 86, 87, 88, 89, 90, 91, 92, 93, 94, 95] (by decide +kernel) (by decide +kernel)
set_option maxRecDepth 20000 in
theorem gX1_answerByKind_X1_answerKept : GoodIn wsX1_answerByKind (wsV RX1 114 RX1 yX1_answerKept wsX1_answerKept) := goodIn_app (goodIn_of _ (by decide +kernel)) ggX1_answerByKind_X1_answerKept
theorem dX1_answerByKind_0 : decode cX1_answerByKind 0 = .ok (.aload_n 1, 1) := by decide +kernel
theorem dX1_answerByKind_1 : decode cX1_answerByKind 1 = .ok (.getfield 61, 3) := by decide +kernel
theorem dX1_answerByKind_4 : decode cX1_answerByKind 4 = .ok (.tableswitch 216 0 12 #[68, 74, 83, 96, 103, 113, 123, 139, 149, 159, 176, 206, 216], 68) := by decide +kernel
theorem dX1_answerByKind_72 : decode cX1_answerByKind 72 = .ok (.aload_n 1, 1) := by decide +kernel
theorem dX1_answerByKind_73 : decode cX1_answerByKind 73 = .ok (.getfield 80, 3) := by decide +kernel
theorem dX1_answerByKind_76 : decode cX1_answerByKind 76 = .ok (.i2l, 1) := by decide +kernel
theorem dX1_answerByKind_77 : decode cX1_answerByKind 77 = .ok (.lreturn, 1) := by decide +kernel
theorem dX1_answerByKind_78 : decode cX1_answerByKind 78 = .ok (.iload_n 2, 1) := by decide +kernel
theorem dX1_answerByKind_79 : decode cX1_answerByKind 79 = .ok (.i2l, 1) := by decide +kernel
theorem dX1_answerByKind_80 : decode cX1_answerByKind 80 = .ok (.aload_n 1, 1) := by decide +kernel
theorem dX1_answerByKind_81 : decode cX1_answerByKind 81 = .ok (.getfield 80, 3) := by decide +kernel
theorem dX1_answerByKind_84 : decode cX1_answerByKind 84 = .ok (.i2l, 1) := by decide +kernel
theorem dX1_answerByKind_85 : decode cX1_answerByKind 85 = .ok (.lmul, 1) := by decide +kernel
theorem dX1_answerByKind_86 : decode cX1_answerByKind 86 = .ok (.lreturn, 1) := by decide +kernel
theorem dX1_answerByKind_87 : decode cX1_answerByKind 87 = .ok (.iload_n 2, 1) := by decide +kernel
theorem dX1_answerByKind_88 : decode cX1_answerByKind 88 = .ok (.i2l, 1) := by decide +kernel
theorem dX1_answerByKind_89 : decode cX1_answerByKind 89 = .ok (.aload_n 0, 1) := by decide +kernel
theorem dX1_answerByKind_90 : decode cX1_answerByKind 90 = .ok (.aload_n 1, 1) := by decide +kernel
theorem dX1_answerByKind_91 : decode cX1_answerByKind 91 = .ok (.getfield 80, 3) := by decide +kernel
theorem dX1_answerByKind_94 : decode cX1_answerByKind 94 = .ok (.invokevirtual 83, 3) := by decide +kernel
theorem dX1_answerByKind_97 : decode cX1_answerByKind 97 = .ok (.i2l, 1) := by decide +kernel
theorem dX1_answerByKind_98 : decode cX1_answerByKind 98 = .ok (.lmul, 1) := by decide +kernel
theorem dX1_answerByKind_99 : decode cX1_answerByKind 99 = .ok (.lreturn, 1) := by decide +kernel
theorem dX1_answerByKind_100 : decode cX1_answerByKind 100 = .ok (.aload_n 0, 1) := by decide +kernel
theorem dX1_answerByKind_101 : decode cX1_answerByKind 101 = .ok (.aload_n 1, 1) := by decide +kernel
theorem dX1_answerByKind_102 : decode cX1_answerByKind 102 = .ok (.iload_n 3, 1) := by decide +kernel
theorem dX1_answerByKind_103 : decode cX1_answerByKind 103 = .ok (.invokevirtual 87, 3) := by decide +kernel
theorem dX1_answerByKind_106 : decode cX1_answerByKind 106 = .ok (.lreturn, 1) := by decide +kernel
theorem dX1_answerByKind_107 : decode cX1_answerByKind 107 = .ok (.aload_n 0, 1) := by decide +kernel
theorem dX1_answerByKind_108 : decode cX1_answerByKind 108 = .ok (.aload_n 1, 1) := by decide +kernel
theorem dX1_answerByKind_109 : decode cX1_answerByKind 109 = .ok (.iload_n 2, 1) := by decide +kernel
theorem dX1_answerByKind_110 : decode cX1_answerByKind 110 = .ok (.iload_n 3, 1) := by decide +kernel
theorem dX1_answerByKind_111 : decode cX1_answerByKind 111 = .ok (.iload 4, 2) := by decide +kernel
theorem dX1_answerByKind_113 : decode cX1_answerByKind 113 = .ok (.invokevirtual 91, 3) := by decide +kernel
theorem dX1_answerByKind_116 : decode cX1_answerByKind 116 = .ok (.lreturn, 1) := by decide +kernel
theorem dX1_answerByKind_117 : decode cX1_answerByKind 117 = .ok (.aload_n 0, 1) := by decide +kernel
theorem dX1_answerByKind_118 : decode cX1_answerByKind 118 = .ok (.aload_n 1, 1) := by decide +kernel
theorem dX1_answerByKind_119 : decode cX1_answerByKind 119 = .ok (.iload_n 2, 1) := by decide +kernel
theorem dX1_answerByKind_120 : decode cX1_answerByKind 120 = .ok (.iload_n 3, 1) := by decide +kernel
theorem dX1_answerByKind_121 : decode cX1_answerByKind 121 = .ok (.iload 4, 2) := by decide +kernel
theorem dX1_answerByKind_123 : decode cX1_answerByKind 123 = .ok (.invokevirtual 94, 3) := by decide +kernel
theorem dX1_answerByKind_126 : decode cX1_answerByKind 126 = .ok (.lreturn, 1) := by decide +kernel
theorem dX1_answerByKind_127 : decode cX1_answerByKind 127 = .ok (.aload_n 0, 1) := by decide +kernel
theorem dX1_answerByKind_128 : decode cX1_answerByKind 128 = .ok (.aload_n 1, 1) := by decide +kernel
theorem dX1_answerByKind_129 : decode cX1_answerByKind 129 = .ok (.getfield 97, 3) := by decide +kernel
theorem dX1_answerByKind_132 : decode cX1_answerByKind 132 = .ok (.iload_n 2, 1) := by decide +kernel
theorem dX1_answerByKind_133 : decode cX1_answerByKind 133 = .ok (.aload_n 1, 1) := by decide +kernel
theorem dX1_answerByKind_134 : decode cX1_answerByKind 134 = .ok (.getfield 80, 3) := by decide +kernel
theorem dX1_answerByKind_137 : decode cX1_answerByKind 137 = .ok (.iload 4, 2) := by decide +kernel
theorem dX1_answerByKind_139 : decode cX1_answerByKind 139 = .ok (.invokevirtual 54, 3) := by decide +kernel
theorem dX1_answerByKind_142 : decode cX1_answerByKind 142 = .ok (.lreturn, 1) := by decide +kernel
theorem dX1_answerByKind_143 : decode cX1_answerByKind 143 = .ok (.aload_n 0, 1) := by decide +kernel
theorem dX1_answerByKind_144 : decode cX1_answerByKind 144 = .ok (.aload_n 1, 1) := by decide +kernel
theorem dX1_answerByKind_145 : decode cX1_answerByKind 145 = .ok (.iload_n 2, 1) := by decide +kernel
theorem dX1_answerByKind_146 : decode cX1_answerByKind 146 = .ok (.iload_n 3, 1) := by decide +kernel
theorem dX1_answerByKind_147 : decode cX1_answerByKind 147 = .ok (.iload 4, 2) := by decide +kernel
theorem dX1_answerByKind_149 : decode cX1_answerByKind 149 = .ok (.invokevirtual 101, 3) := by decide +kernel
theorem dX1_answerByKind_152 : decode cX1_answerByKind 152 = .ok (.lreturn, 1) := by decide +kernel
theorem dX1_answerByKind_153 : decode cX1_answerByKind 153 = .ok (.aload_n 0, 1) := by decide +kernel
theorem dX1_answerByKind_154 : decode cX1_answerByKind 154 = .ok (.aload_n 1, 1) := by decide +kernel
theorem dX1_answerByKind_155 : decode cX1_answerByKind 155 = .ok (.iload_n 2, 1) := by decide +kernel
theorem dX1_answerByKind_156 : decode cX1_answerByKind 156 = .ok (.iload_n 3, 1) := by decide +kernel
theorem dX1_answerByKind_157 : decode cX1_answerByKind 157 = .ok (.iload 4, 2) := by decide +kernel
theorem dX1_answerByKind_159 : decode cX1_answerByKind 159 = .ok (.invokevirtual 104, 3) := by decide +kernel
theorem dX1_answerByKind_162 : decode cX1_answerByKind 162 = .ok (.lreturn, 1) := by decide +kernel
theorem dX1_answerByKind_163 : decode cX1_answerByKind 163 = .ok (.aload_n 0, 1) := by decide +kernel
theorem dX1_answerByKind_164 : decode cX1_answerByKind 164 = .ok (.aload_n 0, 1) := by decide +kernel
theorem dX1_answerByKind_165 : decode cX1_answerByKind 165 = .ok (.aload_n 1, 1) := by decide +kernel
theorem dX1_answerByKind_166 : decode cX1_answerByKind 166 = .ok (.getfield 80, 3) := by decide +kernel
theorem dX1_answerByKind_169 : decode cX1_answerByKind 169 = .ok (.invokevirtual 107, 3) := by decide +kernel
theorem dX1_answerByKind_172 : decode cX1_answerByKind 172 = .ok (.iload_n 2, 1) := by decide +kernel
theorem dX1_answerByKind_173 : decode cX1_answerByKind 173 = .ok (.iload_n 3, 1) := by decide +kernel
theorem dX1_answerByKind_174 : decode cX1_answerByKind 174 = .ok (.iload 4, 2) := by decide +kernel
theorem dX1_answerByKind_176 : decode cX1_answerByKind 176 = .ok (.invokevirtual 54, 3) := by decide +kernel
theorem dX1_answerByKind_179 : decode cX1_answerByKind 179 = .ok (.lreturn, 1) := by decide +kernel
theorem dX1_answerByKind_180 : decode cX1_answerByKind 180 = .ok (.iload_n 2, 1) := by decide +kernel
theorem dX1_answerByKind_181 : decode cX1_answerByKind 181 = .ok (.aload_n 1, 1) := by decide +kernel
theorem dX1_answerByKind_182 : decode cX1_answerByKind 182 = .ok (.getfield 80, 3) := by decide +kernel
theorem dX1_answerByKind_185 : decode cX1_answerByKind 185 = .ok (.if_icmp .le 12, 3) := by decide +kernel
theorem dX1_answerByKind_188 : decode cX1_answerByKind 188 = .ok (.aload_n 0, 1) := by decide +kernel
theorem dX1_answerByKind_189 : decode cX1_answerByKind 189 = .ok (.bipush (-5), 2) := by decide +kernel
theorem dX1_answerByKind_191 : decode cX1_answerByKind 191 = .ok (.invokevirtual 50, 3) := by decide +kernel
theorem dX1_answerByKind_194 : decode cX1_answerByKind 194 = .ok (.goto 15, 3) := by decide +kernel
theorem dX1_answerByKind_197 : decode cX1_answerByKind 197 = .ok (.aload_n 0, 1) := by decide +kernel
theorem dX1_answerByKind_198 : decode cX1_answerByKind 198 = .ok (.aload_n 1, 1) := by decide +kernel
theorem dX1_answerByKind_199 : decode cX1_answerByKind 199 = .ok (.getfield 97, 3) := by decide +kernel
theorem dX1_answerByKind_202 : decode cX1_answerByKind 202 = .ok (.iload_n 2, 1) := by decide +kernel
theorem dX1_answerByKind_203 : decode cX1_answerByKind 203 = .ok (.iload_n 3, 1) := by decide +kernel
theorem dX1_answerByKind_204 : decode cX1_answerByKind 204 = .ok (.iload 4, 2) := by decide +kernel
theorem dX1_answerByKind_206 : decode cX1_answerByKind 206 = .ok (.invokevirtual 54, 3) := by decide +kernel
theorem dX1_answerByKind_209 : decode cX1_answerByKind 209 = .ok (.lreturn, 1) := by decide +kernel
theorem dX1_answerByKind_210 : decode cX1_answerByKind 210 = .ok (.aload_n 0, 1) := by decide +kernel
theorem dX1_answerByKind_211 : decode cX1_answerByKind 211 = .ok (.aload_n 1, 1) := by decide +kernel
theorem dX1_answerByKind_212 : decode cX1_answerByKind 212 = .ok (.iload_n 2, 1) := by decide +kernel
theorem dX1_answerByKind_213 : decode cX1_answerByKind 213 = .ok (.iload_n 3, 1) := by decide +kernel
theorem dX1_answerByKind_214 : decode cX1_answerByKind 214 = .ok (.iload 4, 2) := by decide +kernel
theorem dX1_answerByKind_216 : decode cX1_answerByKind 216 = .ok (.invokevirtual 111, 3) := by decide +kernel
theorem dX1_answerByKind_219 : decode cX1_answerByKind 219 = .ok (.lreturn, 1) := by decide +kernel
theorem dX1_answerByKind_220 : decode cX1_answerByKind 220 = .ok (.aload_n 0, 1) := by decide +kernel
theorem dX1_answerByKind_221 : decode cX1_answerByKind 221 = .ok (.aload_n 1, 1) := by decide +kernel
theorem dX1_answerByKind_222 : decode cX1_answerByKind 222 = .ok (.iload_n 2, 1) := by decide +kernel
theorem dX1_answerByKind_223 : decode cX1_answerByKind 223 = .ok (.iload_n 3, 1) := by decide +kernel
theorem dX1_answerByKind_224 : decode cX1_answerByKind 224 = .ok (.iload 4, 2) := by decide +kernel
theorem dX1_answerByKind_226 : decode cX1_answerByKind 226 = .ok (.invokevirtual 114, 3) := by decide +kernel
theorem dX1_answerByKind_229 : decode cX1_answerByKind 229 = .ok (.lreturn, 1) := by decide +kernel
set_option maxRecDepth 20000 in
theorem ggX1_answerBooked_X1_isBelow : GoodIn wsX1_answerBooked wsX1_isBelow := goodIn_r _ [5] (by decide +kernel) (by decide +kernel)
set_option maxRecDepth 20000 in
theorem gX1_answerBooked_X1_isBelow : GoodIn wsX1_answerBooked (va_wsS RX1 24 yX1_isBelow wsX1_isBelow) := goodIn_app (goodIn_of _ (by decide +kernel)) ggX1_answerBooked_X1_isBelow
set_option maxRecDepth 20000 in
theorem ggX1_answerBooked_X1_fail : GoodIn wsX1_answerBooked wsX1_fail := goodIn_r _ [9, 10, 22, 23, 24, 25, 26, 27, 28] (by decide +kernel) (by decide +kernel)
set_option maxRecDepth 20000 in
theorem gX1_answerBooked_X1_fail : GoodIn wsX1_answerBooked (wsV RX1 50 RX1 yX1_fail wsX1_fail) := goodIn_app (goodIn_of _ (by decide +kernel)) ggX1_answerBooked_X1_fail
theorem dX1_answerBooked_0 : decode cX1_answerBooked 0 = .ok (.aload_n 1, 1) := by decide +kernel
theorem dX1_answerBooked_1 : decode cX1_answerBooked 1 = .ok (.getfield 117, 3) := by decide +kernel
theorem dX1_answerBooked_4 : decode cX1_answerBooked 4 = .ok (.ifnull 15, 3) := by decide +kernel
theorem dX1_answerBooked_7 : decode cX1_answerBooked 7 = .ok (.iload_n 2, 1) := by decide +kernel
theorem dX1_answerBooked_8 : decode cX1_answerBooked 8 = .ok (.aload_n 1, 1) := by decide +kernel
theorem dX1_answerBooked_9 : decode cX1_answerBooked 9 = .ok (.getfield 117, 3) := by decide +kernel
theorem dX1_answerBooked_12 : decode cX1_answerBooked 12 = .ok (.arraylength, 1) := by decide +kernel
theorem dX1_answerBooked_13 : decode cX1_answerBooked 13 = .ok (.invokestatic 24, 3) := by decide +kernel
theorem dX1_answerBooked_16 : decode cX1_answerBooked 16 = .ok (.ifCond .ne 10, 3) := by decide +kernel
theorem dX1_answerBooked_19 : decode cX1_answerBooked 19 = .ok (.aload_n 0, 1) := by decide +kernel
theorem dX1_answerBooked_20 : decode cX1_answerBooked 20 = .ok (.bipush (-4), 2) := by decide +kernel
theorem dX1_answerBooked_22 : decode cX1_answerBooked 22 = .ok (.invokevirtual 50, 3) := by decide +kernel
theorem dX1_answerBooked_25 : decode cX1_answerBooked 25 = .ok (.lreturn, 1) := by decide +kernel
theorem dX1_answerBooked_26 : decode cX1_answerBooked 26 = .ok (.aload_n 1, 1) := by decide +kernel
theorem dX1_answerBooked_27 : decode cX1_answerBooked 27 = .ok (.getfield 117, 3) := by decide +kernel
theorem dX1_answerBooked_30 : decode cX1_answerBooked 30 = .ok (.iload_n 2, 1) := by decide +kernel
theorem dX1_answerBooked_31 : decode cX1_answerBooked 31 = .ok (.iaload, 1) := by decide +kernel
theorem dX1_answerBooked_32 : decode cX1_answerBooked 32 = .ok (.i2l, 1) := by decide +kernel
theorem dX1_answerBooked_33 : decode cX1_answerBooked 33 = .ok (.lreturn, 1) := by decide +kernel
set_option maxRecDepth 20000 in
theorem ggX1_answerJoined_X1_answer : GoodIn wsX1_answerJoined wsX1_answer := goodIn_r _ [21, 22, 17, 18, 19, 8, 20, 2, 23, 24, 25, 26, 27, 4, 1, 28, 29, 30, 31, 32, 33, 34, 35, 36, 37, 38, 39, 40, 41, 42, 43, 44, 45, 46, 5, 6, 7, 47, 48, 49, 50, 51, 52, 53, 54, 55, 56, 57, 58, 59, 60, 61, 62, 63, 64, 65, 66, 67, 68, 69, 3, 70, 0, 9, 10, 11, 12, 13, 14, 15, 16, 71, 72, 73, 74, 75, 76, 77, 78, 79, 80, 81, 82, 83, 84, 85, 86, 87, 88, 89, 90, 91, 92, 93, 94, 95] (by decide +kernel) (by decide +kernel)
set_option maxRecDepth 20000 in
theorem gX1_answerJoined_X1_answer : GoodIn wsX1_answerJoined (wsV RX1 54 RX1 yX1_answer wsX1_answer) := goodIn_app (goodIn_of _ (by decide +kernel)) ggX1_answerJoined_X1_answer
set_option maxRecDepth 20000 in
theorem ggX1_answerJoined_X1_combine : GoodIn wsX1_answerJoined wsX1_combine := goodIn_r _ [12, 13, 14, 15, 16, 17, 18, 19, 8, 20, 2, 78, 79, 80, 81, 82, 83, 84] (by decide +kernel) (by decide +kernel)
set_option maxRecDepth 20000 in
theorem gX1_answerJoined_X1_combine : GoodIn wsX1_answerJoined (wsV RX1 123 RX1 yX1_combine wsX1_combine) := goodIn_app (goodIn_of _ (by decide +kernel)) ggX1_answerJoined_X1_combine
theorem dX1_answerJoined_0 : decode cX1_answerJoined 0 = .ok (.aload_n 0, 1) := by decide +kernel
theorem dX1_answerJoined_1 : decode cX1_answerJoined 1 = .ok (.aload_n 1, 1) := by decide +kernel
theorem dX1_answerJoined_2 : decode cX1_answerJoined 2 = .ok (.getfield 97, 3) := by decide +kernel
theorem dX1_answerJoined_5 : decode cX1_answerJoined 5 = .ok (.iload_n 2, 1) := by decide +kernel
theorem dX1_answerJoined_6 : decode cX1_answerJoined 6 = .ok (.iload_n 3, 1) := by decide +kernel
theorem dX1_answerJoined_7 : decode cX1_answerJoined 7 = .ok (.iload 4, 2) := by decide +kernel
theorem dX1_answerJoined_9 : decode cX1_answerJoined 9 = .ok (.invokevirtual 54, 3) := by decide +kernel
theorem dX1_answerJoined_12 : decode cX1_answerJoined 12 = .ok (.lstore 5, 2) := by decide +kernel
theorem dX1_answerJoined_14 : decode cX1_answerJoined 14 = .ok (.aload_n 0, 1) := by decide +kernel
theorem dX1_answerJoined_15 : decode cX1_answerJoined 15 = .ok (.getfield 47, 3) := by decide +kernel
theorem dX1_answerJoined_18 : decode cX1_answerJoined 18 = .ok (.ifCond .eq 5, 3) := by decide +kernel
theorem dX1_answerJoined_21 : decode cX1_answerJoined 21 = .ok (.lconst 0, 1) := by decide +kernel
theorem dX1_answerJoined_22 : decode cX1_answerJoined 22 = .ok (.lreturn, 1) := by decide +kernel
theorem dX1_answerJoined_23 : decode cX1_answerJoined 23 = .ok (.aload_n 0, 1) := by decide +kernel
theorem dX1_answerJoined_24 : decode cX1_answerJoined 24 = .ok (.aload_n 1, 1) := by decide +kernel
theorem dX1_answerJoined_25 : decode cX1_answerJoined 25 = .ok (.getfield 120, 3) := by decide +kernel
theorem dX1_answerJoined_28 : decode cX1_answerJoined 28 = .ok (.iload_n 2, 1) := by decide +kernel
theorem dX1_answerJoined_29 : decode cX1_answerJoined 29 = .ok (.iload_n 3, 1) := by decide +kernel
theorem dX1_answerJoined_30 : decode cX1_answerJoined 30 = .ok (.iload 4, 2) := by decide +kernel
theorem dX1_answerJoined_32 : decode cX1_answerJoined 32 = .ok (.invokevirtual 54, 3) := by decide +kernel
theorem dX1_answerJoined_35 : decode cX1_answerJoined 35 = .ok (.lstore 7, 2) := by decide +kernel
theorem dX1_answerJoined_37 : decode cX1_answerJoined 37 = .ok (.aload_n 0, 1) := by decide +kernel
theorem dX1_answerJoined_38 : decode cX1_answerJoined 38 = .ok (.getfield 47, 3) := by decide +kernel
theorem dX1_answerJoined_41 : decode cX1_answerJoined 41 = .ok (.ifCond .eq 5, 3) := by decide +kernel
theorem dX1_answerJoined_44 : decode cX1_answerJoined 44 = .ok (.lconst 0, 1) := by decide +kernel
theorem dX1_answerJoined_45 : decode cX1_answerJoined 45 = .ok (.lreturn, 1) := by decide +kernel
theorem dX1_answerJoined_46 : decode cX1_answerJoined 46 = .ok (.aload_n 0, 1) := by decide +kernel
theorem dX1_answerJoined_47 : decode cX1_answerJoined 47 = .ok (.aload_n 1, 1) := by decide +kernel
theorem dX1_answerJoined_48 : decode cX1_answerJoined 48 = .ok (.getfield 80, 3) := by decide +kernel
theorem dX1_answerJoined_51 : decode cX1_answerJoined 51 = .ok (.lload 5, 2) := by decide +kernel
theorem dX1_answerJoined_53 : decode cX1_answerJoined 53 = .ok (.lload 7, 2) := by decide +kernel
theorem dX1_answerJoined_55 : decode cX1_answerJoined 55 = .ok (.invokevirtual 123, 3) := by decide +kernel
theorem dX1_answerJoined_58 : decode cX1_answerJoined 58 = .ok (.lreturn, 1) := by decide +kernel
set_option maxRecDepth 20000 in
theorem ggX1_combine_X1_fail : GoodIn wsX1_combine wsX1_fail := goodIn_r _ [9, 10, 11, 12, 13, 14, 15, 16, 17] (by decide +kernel) (by decide +kernel)
set_option maxRecDepth 20000 in
theorem gX1_combine_X1_fail : GoodIn wsX1_combine (wsV RX1 50 RX1 yX1_fail wsX1_fail) := goodIn_app (goodIn_of _ (by decide +kernel)) ggX1_combine_X1_fail
theorem dX1_combine_0 : decode cX1_combine 0 = .ok (.iload_n 1, 1) := by decide +kernel
theorem dX1_combine_1 : decode cX1_combine 1 = .ok (.tableswitch 96 0 5 #[39, 44, 49, 54, 75, 96], 39) := by decide +kernel
theorem dX1_combine_40 : decode cX1_combine 40 = .ok (.lload_n 2, 1) := by decide +kernel
theorem dX1_combine_41 : decode cX1_combine 41 = .ok (.lload 4, 2) := by decide +kernel
theorem dX1_combine_43 : decode cX1_combine 43 = .ok (.ladd, 1) := by decide +kernel
theorem dX1_combine_44 : decode cX1_combine 44 = .ok (.lreturn, 1) := by decide +kernel
theorem dX1_combine_45 : decode cX1_combine 45 = .ok (.lload_n 2, 1) := by decide +kernel
theorem dX1_combine_46 : decode cX1_combine 46 = .ok (.lload 4, 2) := by decide +kernel
theorem dX1_combine_48 : decode cX1_combine 48 = .ok (.lsub, 1) := by decide +kernel
theorem dX1_combine_49 : decode cX1_combine 49 = .ok (.lreturn, 1) := by decide +kernel
theorem dX1_combine_50 : decode cX1_combine 50 = .ok (.lload_n 2, 1) := by decide +kernel
theorem dX1_combine_51 : decode cX1_combine 51 = .ok (.lload 4, 2) := by decide +kernel
theorem dX1_combine_53 : decode cX1_combine 53 = .ok (.lmul, 1) := by decide +kernel
theorem dX1_combine_54 : decode cX1_combine 54 = .ok (.lreturn, 1) := by decide +kernel
theorem dX1_combine_55 : decode cX1_combine 55 = .ok (.lload 4, 2) := by decide +kernel
theorem dX1_combine_57 : decode cX1_combine 57 = .ok (.lconst 0, 1) := by decide +kernel
theorem dX1_combine_58 : decode cX1_combine 58 = .ok (.lcmp, 1) := by decide +kernel
theorem dX1_combine_59 : decode cX1_combine 59 = .ok (.ifCond .ne 12, 3) := by decide +kernel
theorem dX1_combine_62 : decode cX1_combine 62 = .ok (.aload_n 0, 1) := by decide +kernel
theorem dX1_combine_63 : decode cX1_combine 63 = .ok (.bipush (-3), 2) := by decide +kernel
theorem dX1_combine_65 : decode cX1_combine 65 = .ok (.invokevirtual 50, 3) := by decide +kernel
theorem dX1_combine_68 : decode cX1_combine 68 = .ok (.goto 7, 3) := by decide +kernel
theorem dX1_combine_71 : decode cX1_combine 71 = .ok (.lload_n 2, 1) := by decide +kernel
theorem dX1_combine_72 : decode cX1_combine 72 = .ok (.lload 4, 2) := by decide +kernel
theorem dX1_combine_74 : decode cX1_combine 74 = .ok (.ldiv, 1) := by decide +kernel
theorem dX1_combine_75 : decode cX1_combine 75 = .ok (.lreturn, 1) := by decide +kernel
theorem dX1_combine_76 : decode cX1_combine 76 = .ok (.lload 4, 2) := by decide +kernel
theorem dX1_combine_78 : decode cX1_combine 78 = .ok (.lconst 0, 1) := by decide +kernel
theorem dX1_combine_79 : decode cX1_combine 79 = .ok (.lcmp, 1) := by decide +kernel
theorem dX1_combine_80 : decode cX1_combine 80 = .ok (.ifCond .ne 12, 3) := by decide +kernel
theorem dX1_combine_83 : decode cX1_combine 83 = .ok (.aload_n 0, 1) := by decide +kernel
theorem dX1_combine_84 : decode cX1_combine 84 = .ok (.bipush (-3), 2) := by decide +kernel
theorem dX1_combine_86 : decode cX1_combine 86 = .ok (.invokevirtual 50, 3) := by decide +kernel
theorem dX1_combine_89 : decode cX1_combine 89 = .ok (.goto 7, 3) := by decide +kernel
theorem dX1_combine_92 : decode cX1_combine 92 = .ok (.lload_n 2, 1) := by decide +kernel
theorem dX1_combine_93 : decode cX1_combine 93 = .ok (.lload 4, 2) := by decide +kernel
theorem dX1_combine_95 : decode cX1_combine 95 = .ok (.lrem, 1) := by decide +kernel
theorem dX1_combine_96 : decode cX1_combine 96 = .ok (.lreturn, 1) := by decide +kernel
theorem dX1_combine_97 : decode cX1_combine 97 = .ok (.lload_n 2, 1) := by decide +kernel
theorem dX1_combine_98 : decode cX1_combine 98 = .ok (.lload 4, 2) := by decide +kernel
theorem dX1_combine_100 : decode cX1_combine 100 = .ok (.invokestatic 127, 3) := by decide +kernel
theorem dX1_combine_103 : decode cX1_combine 103 = .ok (.lreturn, 1) := by decide +kernel
set_option maxRecDepth 20000 in
theorem ggX1_answerWhen_X1_answer : GoodIn wsX1_answerWhen wsX1_answer := goodIn_r _ [9, 10, 11, 12, 13, 8, 14, 2, 15, 16, 17, 18, 19, 20, 1, 21, 22, 23, 24, 25, 26, 27, 28, 29, 30, 31, 32, 33, 34, 35, 36, 37, 38, 39, 5, 6, 7, 40, 41, 42, 43, 44, 45, 46, 47, 48, 49, 50, 51, 52, 53, 54, 55, 56, 57, 58, 59, 60, 61, 62, 3, 63, 64, 65, 66, 67, 68, 69, 70, 71, 72, 73, 74, 75, 76, 77, 0, 4, 78, 79, 80, 81, 82, 83, 84, 85, 86, 87, 88, 89, 90, 91, 92, 93, 94, 95] (by decide +kernel) (by decide +kernel)
set_option maxRecDepth 20000 in
theorem gX1_answerWhen_X1_answer : GoodIn wsX1_answerWhen (wsV RX1 54 RX1 yX1_answer wsX1_answer) := goodIn_app (goodIn_of _ (by decide +kernel)) ggX1_answerWhen_X1_answer
theorem dX1_answerWhen_0 : decode cX1_answerWhen 0 = .ok (.aload_n 0, 1) := by decide +kernel
theorem dX1_answerWhen_1 : decode cX1_answerWhen 1 = .ok (.aload_n 1, 1) := by decide +kernel
theorem dX1_answerWhen_2 : decode cX1_answerWhen 2 = .ok (.getfield 97, 3) := by decide +kernel
theorem dX1_answerWhen_5 : decode cX1_answerWhen 5 = .ok (.iload_n 2, 1) := by decide +kernel
theorem dX1_answerWhen_6 : decode cX1_answerWhen 6 = .ok (.iload_n 3, 1) := by decide +kernel
theorem dX1_answerWhen_7 : decode cX1_answerWhen 7 = .ok (.iload 4, 2) := by decide +kernel
theorem dX1_answerWhen_9 : decode cX1_answerWhen 9 = .ok (.invokevirtual 54, 3) := by decide +kernel
theorem dX1_answerWhen_12 : decode cX1_answerWhen 12 = .ok (.lstore 5, 2) := by decide +kernel
theorem dX1_answerWhen_14 : decode cX1_answerWhen 14 = .ok (.aload_n 0, 1) := by decide +kernel
theorem dX1_answerWhen_15 : decode cX1_answerWhen 15 = .ok (.getfield 47, 3) := by decide +kernel
theorem dX1_answerWhen_18 : decode cX1_answerWhen 18 = .ok (.ifCond .eq 5, 3) := by decide +kernel
theorem dX1_answerWhen_21 : decode cX1_answerWhen 21 = .ok (.lconst 0, 1) := by decide +kernel
theorem dX1_answerWhen_22 : decode cX1_answerWhen 22 = .ok (.lreturn, 1) := by decide +kernel
theorem dX1_answerWhen_23 : decode cX1_answerWhen 23 = .ok (.aload_n 0, 1) := by decide +kernel
theorem dX1_answerWhen_24 : decode cX1_answerWhen 24 = .ok (.lload 5, 2) := by decide +kernel
theorem dX1_answerWhen_26 : decode cX1_answerWhen 26 = .ok (.lconst 0, 1) := by decide +kernel
theorem dX1_answerWhen_27 : decode cX1_answerWhen 27 = .ok (.lcmp, 1) := by decide +kernel
theorem dX1_answerWhen_28 : decode cX1_answerWhen 28 = .ok (.ifCond .le 10, 3) := by decide +kernel
theorem dX1_answerWhen_31 : decode cX1_answerWhen 31 = .ok (.aload_n 1, 1) := by decide +kernel
theorem dX1_answerWhen_32 : decode cX1_answerWhen 32 = .ok (.getfield 120, 3) := by decide +kernel
theorem dX1_answerWhen_35 : decode cX1_answerWhen 35 = .ok (.goto 7, 3) := by decide +kernel
theorem dX1_answerWhen_38 : decode cX1_answerWhen 38 = .ok (.aload_n 1, 1) := by decide +kernel
theorem dX1_answerWhen_39 : decode cX1_answerWhen 39 = .ok (.getfield 133, 3) := by decide +kernel
theorem dX1_answerWhen_42 : decode cX1_answerWhen 42 = .ok (.iload_n 2, 1) := by decide +kernel
theorem dX1_answerWhen_43 : decode cX1_answerWhen 43 = .ok (.iload_n 3, 1) := by decide +kernel
theorem dX1_answerWhen_44 : decode cX1_answerWhen 44 = .ok (.iload 4, 2) := by decide +kernel
theorem dX1_answerWhen_46 : decode cX1_answerWhen 46 = .ok (.invokevirtual 54, 3) := by decide +kernel
theorem dX1_answerWhen_49 : decode cX1_answerWhen 49 = .ok (.lreturn, 1) := by decide +kernel
set_option maxRecDepth 20000 in
theorem ggX1_answerFed_X1_answer : GoodIn wsX1_answerFed wsX1_answer := goodIn_r _ [8, 9, 10, 11, 12, 7, 13, 2, 14, 15, 16, 17, 18, 19, 3, 20, 21, 22, 23, 24, 25, 26, 27, 28, 29, 30, 31, 32, 33, 34, 35, 36, 37, 38, 4, 5, 6, 39, 40, 41, 42, 43, 44, 45, 46, 47, 48, 49, 50, 51, 52, 53, 54, 55, 56, 57, 58, 59, 60, 0, 1, 61, 62, 63, 64, 65, 66, 67, 68, 69, 70, 71, 72, 73, 74, 75, 76, 77, 78, 79, 80, 81, 82, 83, 84, 85, 86, 87, 88, 89, 90, 91, 92, 93, 94, 95] (by decide +kernel) (by decide +kernel)
set_option maxRecDepth 20000 in
theorem gX1_answerFed_X1_answer : GoodIn wsX1_answerFed (wsV RX1 54 RX1 yX1_answer wsX1_answer) := goodIn_app (goodIn_of _ (by decide +kernel)) ggX1_answerFed_X1_answer
theorem dX1_answerFed_0 : decode cX1_answerFed 0 = .ok (.aload_n 0, 1) := by decide +kernel
theorem dX1_answerFed_1 : decode cX1_answerFed 1 = .ok (.aload_n 1, 1) := by decide +kernel
theorem dX1_answerFed_2 : decode cX1_answerFed 2 = .ok (.getfield 120, 3) := by decide +kernel
theorem dX1_answerFed_5 : decode cX1_answerFed 5 = .ok (.iload_n 2, 1) := by decide +kernel
theorem dX1_answerFed_6 : decode cX1_answerFed 6 = .ok (.iload_n 3, 1) := by decide +kernel
theorem dX1_answerFed_7 : decode cX1_answerFed 7 = .ok (.iload 4, 2) := by decide +kernel
theorem dX1_answerFed_9 : decode cX1_answerFed 9 = .ok (.invokevirtual 54, 3) := by decide +kernel
theorem dX1_answerFed_12 : decode cX1_answerFed 12 = .ok (.lstore 5, 2) := by decide +kernel
theorem dX1_answerFed_14 : decode cX1_answerFed 14 = .ok (.aload_n 0, 1) := by decide +kernel
theorem dX1_answerFed_15 : decode cX1_answerFed 15 = .ok (.getfield 47, 3) := by decide +kernel
theorem dX1_answerFed_18 : decode cX1_answerFed 18 = .ok (.ifCond .eq 5, 3) := by decide +kernel
theorem dX1_answerFed_21 : decode cX1_answerFed 21 = .ok (.lconst 0, 1) := by decide +kernel
theorem dX1_answerFed_22 : decode cX1_answerFed 22 = .ok (.lreturn, 1) := by decide +kernel
theorem dX1_answerFed_23 : decode cX1_answerFed 23 = .ok (.aload_n 0, 1) := by decide +kernel
theorem dX1_answerFed_24 : decode cX1_answerFed 24 = .ok (.aload_n 1, 1) := by decide +kernel
theorem dX1_answerFed_25 : decode cX1_answerFed 25 = .ok (.getfield 97, 3) := by decide +kernel
theorem dX1_answerFed_28 : decode cX1_answerFed 28 = .ok (.lload 5, 2) := by decide +kernel
theorem dX1_answerFed_30 : decode cX1_answerFed 30 = .ok (.l2i, 1) := by decide +kernel
theorem dX1_answerFed_31 : decode cX1_answerFed 31 = .ok (.iload_n 3, 1) := by decide +kernel
theorem dX1_answerFed_32 : decode cX1_answerFed 32 = .ok (.iload 4, 2) := by decide +kernel
theorem dX1_answerFed_34 : decode cX1_answerFed 34 = .ok (.invokevirtual 54, 3) := by decide +kernel
theorem dX1_answerFed_37 : decode cX1_answerFed 37 = .ok (.lreturn, 1) := by decide +kernel
set_option maxRecDepth 20000 in
theorem ggX1_answerGuarded_X1_answer : GoodIn wsX1_answerGuarded wsX1_answer := goodIn_r _ [8, 9, 10, 11, 12, 7, 13, 2, 14, 15, 16, 17, 18, 19, 1, 20, 21, 22, 23, 24, 25, 26, 27, 28, 29, 30, 31, 32, 33, 34, 35, 36, 37, 38, 4, 5, 6, 39, 40, 41, 42, 43, 44, 45, 46, 47, 48, 49, 50, 51, 52, 53, 54, 55, 56, 57, 58, 59, 60, 61, 3, 0, 62, 63, 64, 65, 66, 67, 68, 69, 70, 71, 72, 73, 74, 75, 76, 77, 78, 79, 80, 81, 82, 83, 84, 85, 86, 87, 88, 89, 90, 91, 92, 93, 94, 95] (by decide +kernel) (by decide +kernel)
set_option maxRecDepth 20000 in
theorem gX1_answerGuarded_X1_answer : GoodIn wsX1_answerGuarded (wsV RX1 54 RX1 yX1_answer wsX1_answer) := goodIn_app (goodIn_of _ (by decide +kernel)) ggX1_answerGuarded_X1_answer
theorem dX1_answerGuarded_0 : decode cX1_answerGuarded 0 = .ok (.aload_n 0, 1) := by decide +kernel
theorem dX1_answerGuarded_1 : decode cX1_answerGuarded 1 = .ok (.aload_n 1, 1) := by decide +kernel
theorem dX1_answerGuarded_2 : decode cX1_answerGuarded 2 = .ok (.getfield 97, 3) := by decide +kernel
theorem dX1_answerGuarded_5 : decode cX1_answerGuarded 5 = .ok (.iload_n 2, 1) := by decide +kernel
theorem dX1_answerGuarded_6 : decode cX1_answerGuarded 6 = .ok (.iload_n 3, 1) := by decide +kernel
theorem dX1_answerGuarded_7 : decode cX1_answerGuarded 7 = .ok (.iload 4, 2) := by decide +kernel
theorem dX1_answerGuarded_9 : decode cX1_answerGuarded 9 = .ok (.invokevirtual 54, 3) := by decide +kernel
theorem dX1_answerGuarded_12 : decode cX1_answerGuarded 12 = .ok (.lstore 5, 2) := by decide +kernel
theorem dX1_answerGuarded_14 : decode cX1_answerGuarded 14 = .ok (.aload_n 0, 1) := by decide +kernel
theorem dX1_answerGuarded_15 : decode cX1_answerGuarded 15 = .ok (.getfield 47, 3) := by decide +kernel
theorem dX1_answerGuarded_18 : decode cX1_answerGuarded 18 = .ok (.ifCond .eq 21, 3) := by decide +kernel
theorem dX1_answerGuarded_21 : decode cX1_answerGuarded 21 = .ok (.aload_n 0, 1) := by decide +kernel
theorem dX1_answerGuarded_22 : decode cX1_answerGuarded 22 = .ok (.getfield 47, 3) := by decide +kernel
theorem dX1_answerGuarded_25 : decode cX1_answerGuarded 25 = .ok (.bipush (-6), 2) := by decide +kernel
theorem dX1_answerGuarded_27 : decode cX1_answerGuarded 27 = .ok (.if_icmp .eq 12, 3) := by decide +kernel
theorem dX1_answerGuarded_30 : decode cX1_answerGuarded 30 = .ok (.aload_n 0, 1) := by decide +kernel
theorem dX1_answerGuarded_31 : decode cX1_answerGuarded 31 = .ok (.getfield 47, 3) := by decide +kernel
theorem dX1_answerGuarded_34 : decode cX1_answerGuarded 34 = .ok (.bipush (-7), 2) := by decide +kernel
theorem dX1_answerGuarded_36 : decode cX1_answerGuarded 36 = .ok (.if_icmp .ne 6, 3) := by decide +kernel
theorem dX1_answerGuarded_39 : decode cX1_answerGuarded 39 = .ok (.lload 5, 2) := by decide +kernel
theorem dX1_answerGuarded_41 : decode cX1_answerGuarded 41 = .ok (.lreturn, 1) := by decide +kernel
theorem dX1_answerGuarded_42 : decode cX1_answerGuarded 42 = .ok (.aload_n 0, 1) := by decide +kernel
theorem dX1_answerGuarded_43 : decode cX1_answerGuarded 43 = .ok (.iconst 0, 1) := by decide +kernel
theorem dX1_answerGuarded_44 : decode cX1_answerGuarded 44 = .ok (.putfield 47, 3) := by decide +kernel
theorem dX1_answerGuarded_47 : decode cX1_answerGuarded 47 = .ok (.aload_n 0, 1) := by decide +kernel
theorem dX1_answerGuarded_48 : decode cX1_answerGuarded 48 = .ok (.aload_n 1, 1) := by decide +kernel
theorem dX1_answerGuarded_49 : decode cX1_answerGuarded 49 = .ok (.getfield 120, 3) := by decide +kernel
theorem dX1_answerGuarded_52 : decode cX1_answerGuarded 52 = .ok (.iload_n 2, 1) := by decide +kernel
theorem dX1_answerGuarded_53 : decode cX1_answerGuarded 53 = .ok (.iload_n 3, 1) := by decide +kernel
theorem dX1_answerGuarded_54 : decode cX1_answerGuarded 54 = .ok (.iload 4, 2) := by decide +kernel
theorem dX1_answerGuarded_56 : decode cX1_answerGuarded 56 = .ok (.invokevirtual 54, 3) := by decide +kernel
theorem dX1_answerGuarded_59 : decode cX1_answerGuarded 59 = .ok (.lreturn, 1) := by decide +kernel
set_option maxRecDepth 20000 in
theorem ggX1_answerCounted_X1_answer : GoodIn wsX1_answerCounted wsX1_answer := goodIn_r _ [8, 9, 10, 11, 12, 7, 13, 3, 14, 15, 16, 17, 18, 19, 2, 20, 21, 22, 23, 24, 25, 26, 27, 28, 29, 30, 31, 32, 33, 34, 35, 36, 37, 38, 4, 5, 6, 39, 40, 41, 42, 43, 44, 45, 46, 47, 48, 49, 50, 51, 52, 53, 54, 55, 56, 57, 58, 0, 1, 59, 60, 61, 62, 63, 64, 65, 66, 67, 68, 69, 70, 71, 72, 73, 74, 75, 76, 77, 78, 79, 80, 81, 82, 83, 84, 85, 86, 87, 88, 89, 90, 91, 92, 93, 94, 95] (by decide +kernel) (by decide +kernel)
set_option maxRecDepth 20000 in
theorem gX1_answerCounted_X1_answer : GoodIn wsX1_answerCounted (wsV RX1 54 RX1 yX1_answer wsX1_answer) := goodIn_app (goodIn_of _ (by decide +kernel)) ggX1_answerCounted_X1_answer
theorem dX1_answerCounted_0 : decode cX1_answerCounted 0 = .ok (.aload_n 1, 1) := by decide +kernel
theorem dX1_answerCounted_1 : decode cX1_answerCounted 1 = .ok (.dup, 1) := by decide +kernel
theorem dX1_answerCounted_2 : decode cX1_answerCounted 2 = .ok (.getfield 64, 3) := by decide +kernel
theorem dX1_answerCounted_5 : decode cX1_answerCounted 5 = .ok (.iconst 1, 1) := by decide +kernel
theorem dX1_answerCounted_6 : decode cX1_answerCounted 6 = .ok (.iadd, 1) := by decide +kernel
theorem dX1_answerCounted_7 : decode cX1_answerCounted 7 = .ok (.putfield 64, 3) := by decide +kernel
theorem dX1_answerCounted_10 : decode cX1_answerCounted 10 = .ok (.aload_n 0, 1) := by decide +kernel
theorem dX1_answerCounted_11 : decode cX1_answerCounted 11 = .ok (.aload_n 1, 1) := by decide +kernel
theorem dX1_answerCounted_12 : decode cX1_answerCounted 12 = .ok (.getfield 97, 3) := by decide +kernel
theorem dX1_answerCounted_15 : decode cX1_answerCounted 15 = .ok (.iload_n 2, 1) := by decide +kernel
theorem dX1_answerCounted_16 : decode cX1_answerCounted 16 = .ok (.iload_n 3, 1) := by decide +kernel
theorem dX1_answerCounted_17 : decode cX1_answerCounted 17 = .ok (.iload 4, 2) := by decide +kernel
theorem dX1_answerCounted_19 : decode cX1_answerCounted 19 = .ok (.invokevirtual 54, 3) := by decide +kernel
theorem dX1_answerCounted_22 : decode cX1_answerCounted 22 = .ok (.lstore 5, 2) := by decide +kernel
theorem dX1_answerCounted_24 : decode cX1_answerCounted 24 = .ok (.aload_n 0, 1) := by decide +kernel
theorem dX1_answerCounted_25 : decode cX1_answerCounted 25 = .ok (.getfield 47, 3) := by decide +kernel
theorem dX1_answerCounted_28 : decode cX1_answerCounted 28 = .ok (.ifCond .eq 5, 3) := by decide +kernel
theorem dX1_answerCounted_31 : decode cX1_answerCounted 31 = .ok (.lconst 0, 1) := by decide +kernel
theorem dX1_answerCounted_32 : decode cX1_answerCounted 32 = .ok (.lreturn, 1) := by decide +kernel
theorem dX1_answerCounted_33 : decode cX1_answerCounted 33 = .ok (.lload 5, 2) := by decide +kernel
theorem dX1_answerCounted_35 : decode cX1_answerCounted 35 = .ok (.aload_n 1, 1) := by decide +kernel
theorem dX1_answerCounted_36 : decode cX1_answerCounted 36 = .ok (.getfield 64, 3) := by decide +kernel
theorem dX1_answerCounted_39 : decode cX1_answerCounted 39 = .ok (.i2l, 1) := by decide +kernel
theorem dX1_answerCounted_40 : decode cX1_answerCounted 40 = .ok (.ladd, 1) := by decide +kernel
theorem dX1_answerCounted_41 : decode cX1_answerCounted 41 = .ok (.lreturn, 1) := by decide +kernel
set_option maxRecDepth 20000 in
theorem ggX1_answerKept_X1_answer : GoodIn wsX1_answerKept wsX1_answer := goodIn_r _ [11, 12, 13, 14, 15, 10, 16, 6, 17, 18, 19, 20, 21, 22, 5, 23, 24, 25, 26, 27, 28, 29, 30, 31, 32, 33, 34, 35, 36, 37, 38, 39, 40, 41, 7, 8, 9, 42, 43, 44, 45, 46, 47, 48, 49, 50, 51, 52, 53, 54, 55, 56, 57, 58, 59, 60, 61, 62, 63, 64, 65, 66, 67, 68, 69, 70, 71, 72, 73, 74, 75, 0, 1, 2, 3, 4, 76, 77, 78, 79, 80, 81, 82, 83, 84, 85, 86, 87, 88, 89, 90, 91, 92, 93, 94, 95] (by decide +kernel) (by decide +kernel)
set_option maxRecDepth 20000 in
theorem gX1_answerKept_X1_answer : GoodIn wsX1_answerKept (wsV RX1 54 RX1 yX1_answer wsX1_answer) := goodIn_app (goodIn_of _ (by decide +kernel)) ggX1_answerKept_X1_answer
theorem dX1_answerKept_0 : decode cX1_answerKept 0 = .ok (.aload_n 1, 1) := by decide +kernel
theorem dX1_answerKept_1 : decode cX1_answerKept 1 = .ok (.getfield 136, 3) := by decide +kernel
theorem dX1_answerKept_4 : decode cX1_answerKept 4 = .ok (.ifCond .eq 24, 3) := by decide +kernel
theorem dX1_answerKept_7 : decode cX1_answerKept 7 = .ok (.aload_n 1, 1) := by decide +kernel
theorem dX1_answerKept_8 : decode cX1_answerKept 8 = .ok (.getfield 140, 3) := by decide +kernel
theorem dX1_answerKept_11 : decode cX1_answerKept 11 = .ok (.iload_n 2, 1) := by decide +kernel
theorem dX1_answerKept_12 : decode cX1_answerKept 12 = .ok (.if_icmp .ne 16, 3) := by decide +kernel
theorem dX1_answerKept_15 : decode cX1_answerKept 15 = .ok (.aload_n 1, 1) := by decide +kernel
theorem dX1_answerKept_16 : decode cX1_answerKept 16 = .ok (.getfield 143, 3) := by decide +kernel
theorem dX1_answerKept_19 : decode cX1_answerKept 19 = .ok (.iload_n 3, 1) := by decide +kernel
theorem dX1_answerKept_20 : decode cX1_answerKept 20 = .ok (.if_icmp .ne 8, 3) := by decide +kernel
theorem dX1_answerKept_23 : decode cX1_answerKept 23 = .ok (.aload_n 1, 1) := by decide +kernel
theorem dX1_answerKept_24 : decode cX1_answerKept 24 = .ok (.getfield 146, 3) := by decide +kernel
theorem dX1_answerKept_27 : decode cX1_answerKept 27 = .ok (.lreturn, 1) := by decide +kernel
theorem dX1_answerKept_28 : decode cX1_answerKept 28 = .ok (.aload_n 0, 1) := by decide +kernel
theorem dX1_answerKept_29 : decode cX1_answerKept 29 = .ok (.aload_n 1, 1) := by decide +kernel
theorem dX1_answerKept_30 : decode cX1_answerKept 30 = .ok (.getfield 97, 3) := by decide +kernel
theorem dX1_answerKept_33 : decode cX1_answerKept 33 = .ok (.iload_n 2, 1) := by decide +kernel
theorem dX1_answerKept_34 : decode cX1_answerKept 34 = .ok (.iload_n 3, 1) := by decide +kernel
theorem dX1_answerKept_35 : decode cX1_answerKept 35 = .ok (.iload 4, 2) := by decide +kernel
theorem dX1_answerKept_37 : decode cX1_answerKept 37 = .ok (.invokevirtual 54, 3) := by decide +kernel
theorem dX1_answerKept_40 : decode cX1_answerKept 40 = .ok (.lstore 5, 2) := by decide +kernel
theorem dX1_answerKept_42 : decode cX1_answerKept 42 = .ok (.aload_n 0, 1) := by decide +kernel
theorem dX1_answerKept_43 : decode cX1_answerKept 43 = .ok (.getfield 47, 3) := by decide +kernel
theorem dX1_answerKept_46 : decode cX1_answerKept 46 = .ok (.ifCond .eq 5, 3) := by decide +kernel
theorem dX1_answerKept_49 : decode cX1_answerKept 49 = .ok (.lconst 0, 1) := by decide +kernel
theorem dX1_answerKept_50 : decode cX1_answerKept 50 = .ok (.lreturn, 1) := by decide +kernel
theorem dX1_answerKept_51 : decode cX1_answerKept 51 = .ok (.aload_n 1, 1) := by decide +kernel
theorem dX1_answerKept_52 : decode cX1_answerKept 52 = .ok (.iconst 1, 1) := by decide +kernel
theorem dX1_answerKept_53 : decode cX1_answerKept 53 = .ok (.putfield 136, 3) := by decide +kernel
theorem dX1_answerKept_56 : decode cX1_answerKept 56 = .ok (.aload_n 1, 1) := by decide +kernel
theorem dX1_answerKept_57 : decode cX1_answerKept 57 = .ok (.iload_n 2, 1) := by decide +kernel
theorem dX1_answerKept_58 : decode cX1_answerKept 58 = .ok (.putfield 140, 3) := by decide +kernel
theorem dX1_answerKept_61 : decode cX1_answerKept 61 = .ok (.aload_n 1, 1) := by decide +kernel
theorem dX1_answerKept_62 : decode cX1_answerKept 62 = .ok (.iload_n 3, 1) := by decide +kernel
theorem dX1_answerKept_63 : decode cX1_answerKept 63 = .ok (.putfield 143, 3) := by decide +kernel
theorem dX1_answerKept_66 : decode cX1_answerKept 66 = .ok (.aload_n 1, 1) := by decide +kernel
theorem dX1_answerKept_67 : decode cX1_answerKept 67 = .ok (.lload 5, 2) := by decide +kernel
theorem dX1_answerKept_69 : decode cX1_answerKept 69 = .ok (.putfield 146, 3) := by decide +kernel
theorem dX1_answerKept_72 : decode cX1_answerKept 72 = .ok (.lload 5, 2) := by decide +kernel
theorem dX1_answerKept_74 : decode cX1_answerKept 74 = .ok (.lreturn, 1) := by decide +kernel
set_option maxRecDepth 20000 in
theorem ggX2_init_X2_clear : GoodIn wsX2_init wsX2_clear := goodIn_r _ [32, 33, 5, 34, 6, 7, 22, 35, 36, 37, 38, 39, 40, 41, 42, 43, 44, 45, 46, 47, 48, 49, 50, 51, 52, 53, 54, 55, 56, 57, 58, 59, 60, 61, 62, 63, 64, 65] (by decide +kernel) (by decide +kernel)
set_option maxRecDepth 20000 in
theorem gX2_init_X2_clear : GoodIn wsX2_init (wsV RX2 73 RX2 yX2_clear wsX2_clear) := goodIn_app (goodIn_of _ (by decide +kernel)) ggX2_init_X2_clear
