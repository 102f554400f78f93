/-! decode rows and calls' words, printed -/
theorem inJ9 : ∀ w ∈ wsJ90, w ∈ lw_tbl := by decide +kernel
theorem inJ10 : ∀ w ∈ wsJ100, w ∈ lw_tbl := by decide +kernel
set_option maxRecDepth 20000 in
theorem ggX0_init_X4_init : GoodIn wsX0_init wsX4_init := goodIn_r _ [11, 12, 2, 3, 13, 14, 15, 16, 17, 18, 19, 20, 21, 22, 23, 24, 25, 26, 27, 28, 29, 30, 31, 32, 33, 34, 35, 36, 37, 38, 39, 40, 41, 42, 43, 44, 45, 46, 47, 48, 49, 59, 60, 52, 53, 54, 55, 56, 57, 58, 61, 62, 63, 64, 65, 66] (by decide +kernel) (by decide +kernel)
set_option maxRecDepth 20000 in
theorem gX0_init_X4_init : GoodIn wsX0_init (wsX4_init) := ggX0_init_X4_init
theorem dX0_init_0 : decode cX0_init 0 = .ok (.aload_n 0, 1) := by decide +kernel
theorem dX0_init_1 : decode cX0_init 1 = .ok (.invokespecial 3, 3) := by decide +kernel
theorem dX0_init_4 : decode cX0_init 4 = .ok (.aload_n 0, 1) := by decide +kernel
theorem dX0_init_5 : decode cX0_init 5 = .ok (.iconst 4, 1) := by decide +kernel
theorem dX0_init_6 : decode cX0_init 6 = .ok (.anewarray 9, 3) := by decide +kernel
theorem dX0_init_9 : decode cX0_init 9 = .ok (.putfield 11, 3) := by decide +kernel
theorem dX0_init_12 : decode cX0_init 12 = .ok (.iconst 0, 1) := by decide +kernel
theorem dX0_init_13 : decode cX0_init 13 = .ok (.istore_n 1, 1) := by decide +kernel
theorem dX0_init_14 : decode cX0_init 14 = .ok (.iload_n 1, 1) := by decide +kernel
theorem dX0_init_15 : decode cX0_init 15 = .ok (.iconst 4, 1) := by decide +kernel
theorem dX0_init_16 : decode cX0_init 16 = .ok (.if_icmp .ge 22, 3) := by decide +kernel
theorem dX0_init_19 : decode cX0_init 19 = .ok (.aload_n 0, 1) := by decide +kernel
theorem dX0_init_20 : decode cX0_init 20 = .ok (.getfield 11, 3) := by decide +kernel
theorem dX0_init_23 : decode cX0_init 23 = .ok (.iload_n 1, 1) := by decide +kernel
theorem dX0_init_24 : decode cX0_init 24 = .ok (.new 9, 3) := by decide +kernel
theorem dX0_init_27 : decode cX0_init 27 = .ok (.dup, 1) := by decide +kernel
theorem dX0_init_28 : decode cX0_init 28 = .ok (.invokespecial 17, 3) := by decide +kernel
theorem dX0_init_31 : decode cX0_init 31 = .ok (.aastore, 1) := by decide +kernel
theorem dX0_init_32 : decode cX0_init 32 = .ok (.iinc 1 1, 3) := by decide +kernel
theorem dX0_init_35 : decode cX0_init 35 = .ok (.goto (-21), 3) := by decide +kernel
theorem dX0_init_38 : decode cX0_init 38 = .ok (.aload_n 0, 1) := by decide +kernel
theorem dX0_init_39 : decode cX0_init 39 = .ok (.iconst 0, 1) := by decide +kernel
theorem dX0_init_40 : decode cX0_init 40 = .ok (.putfield 18, 3) := by decide +kernel
theorem dX0_init_43 : decode cX0_init 43 = .ok (.return_, 1) := by decide +kernel
set_option maxRecDepth 20000 in
theorem ggX0_remember_X0_dropOldest : GoodIn wsX0_remember wsX0_dropOldest := goodIn_r _ [7, 2, 1, 48, 49] (by decide +kernel) (by decide +kernel)
set_option maxRecDepth 20000 in
theorem gX0_remember_X0_dropOldest : GoodIn wsX0_remember (wsV RX0 22 RX0 yX0_dropOldest wsX0_dropOldest) := goodIn_app (goodIn_of _ (by decide +kernel)) ggX0_remember_X0_dropOldest
set_option maxRecDepth 20000 in
theorem ggX0_remember_X4_copyFrom : GoodIn wsX0_remember wsX4_copyFrom := goodIn_r _ [12, 13, 14, 15, 16, 17, 18, 19, 20, 21, 22, 23, 24, 25, 26, 27, 28, 29, 30, 31, 32, 33, 34, 35, 36, 37, 38, 39, 40, 41, 42, 43, 44, 45, 46, 47, 50, 51, 52, 53, 54, 55, 56, 57, 58, 59, 60, 61, 62, 63, 64] (by decide +kernel) (by decide +kernel)
set_option maxRecDepth 20000 in
theorem gX0_remember_X4_copyFrom : GoodIn wsX0_remember (wsV RX0 25 RX4 yX4_copyFrom wsX4_copyFrom) := goodIn_app (goodIn_of _ (by decide +kernel)) ggX0_remember_X4_copyFrom
theorem dX0_remember_0 : decode cX0_remember 0 = .ok (.aload_n 0, 1) := by decide +kernel
theorem dX0_remember_1 : decode cX0_remember 1 = .ok (.getfield 18, 3) := by decide +kernel
theorem dX0_remember_4 : decode cX0_remember 4 = .ok (.iconst 4, 1) := by decide +kernel
theorem dX0_remember_5 : decode cX0_remember 5 = .ok (.if_icmp .lt 7, 3) := by decide +kernel
theorem dX0_remember_8 : decode cX0_remember 8 = .ok (.aload_n 0, 1) := by decide +kernel
theorem dX0_remember_9 : decode cX0_remember 9 = .ok (.invokevirtual 22, 3) := by decide +kernel
theorem dX0_remember_12 : decode cX0_remember 12 = .ok (.aload_n 0, 1) := by decide +kernel
theorem dX0_remember_13 : decode cX0_remember 13 = .ok (.getfield 11, 3) := by decide +kernel
theorem dX0_remember_16 : decode cX0_remember 16 = .ok (.aload_n 0, 1) := by decide +kernel
theorem dX0_remember_17 : decode cX0_remember 17 = .ok (.getfield 18, 3) := by decide +kernel
theorem dX0_remember_20 : decode cX0_remember 20 = .ok (.aaload, 1) := by decide +kernel
theorem dX0_remember_21 : decode cX0_remember 21 = .ok (.aload_n 1, 1) := by decide +kernel
theorem dX0_remember_22 : decode cX0_remember 22 = .ok (.invokevirtual 25, 3) := by decide +kernel
theorem dX0_remember_25 : decode cX0_remember 25 = .ok (.aload_n 0, 1) := by decide +kernel
theorem dX0_remember_26 : decode cX0_remember 26 = .ok (.dup, 1) := by decide +kernel
theorem dX0_remember_27 : decode cX0_remember 27 = .ok (.getfield 18, 3) := by decide +kernel
theorem dX0_remember_30 : decode cX0_remember 30 = .ok (.iconst 1, 1) := by decide +kernel
theorem dX0_remember_31 : decode cX0_remember 31 = .ok (.iadd, 1) := by decide +kernel
theorem dX0_remember_32 : decode cX0_remember 32 = .ok (.putfield 18, 3) := by decide +kernel
theorem dX0_remember_35 : decode cX0_remember 35 = .ok (.return_, 1) := by decide +kernel
theorem dX0_dropOldest_0 : decode cX0_dropOldest 0 = .ok (.aload_n 0, 1) := by decide +kernel
theorem dX0_dropOldest_1 : decode cX0_dropOldest 1 = .ok (.getfield 11, 3) := by decide +kernel
theorem dX0_dropOldest_4 : decode cX0_dropOldest 4 = .ok (.iconst 0, 1) := by decide +kernel
theorem dX0_dropOldest_5 : decode cX0_dropOldest 5 = .ok (.aaload, 1) := by decide +kernel
theorem dX0_dropOldest_6 : decode cX0_dropOldest 6 = .ok (.astore_n 1, 1) := by decide +kernel
theorem dX0_dropOldest_7 : decode cX0_dropOldest 7 = .ok (.iconst 1, 1) := by decide +kernel
theorem dX0_dropOldest_8 : decode cX0_dropOldest 8 = .ok (.istore_n 2, 1) := by decide +kernel
theorem dX0_dropOldest_9 : decode cX0_dropOldest 9 = .ok (.iload_n 2, 1) := by decide +kernel
theorem dX0_dropOldest_10 : decode cX0_dropOldest 10 = .ok (.iconst 4, 1) := by decide +kernel
theorem dX0_dropOldest_11 : decode cX0_dropOldest 11 = .ok (.if_icmp .ge 23, 3) := by decide +kernel
theorem dX0_dropOldest_14 : decode cX0_dropOldest 14 = .ok (.aload_n 0, 1) := by decide +kernel
theorem dX0_dropOldest_15 : decode cX0_dropOldest 15 = .ok (.getfield 11, 3) := by decide +kernel
theorem dX0_dropOldest_18 : decode cX0_dropOldest 18 = .ok (.iload_n 2, 1) := by decide +kernel
theorem dX0_dropOldest_19 : decode cX0_dropOldest 19 = .ok (.iconst 1, 1) := by decide +kernel
theorem dX0_dropOldest_20 : decode cX0_dropOldest 20 = .ok (.isub, 1) := by decide +kernel
theorem dX0_dropOldest_21 : decode cX0_dropOldest 21 = .ok (.aload_n 0, 1) := by decide +kernel
theorem dX0_dropOldest_22 : decode cX0_dropOldest 22 = .ok (.getfield 11, 3) := by decide +kernel
theorem dX0_dropOldest_25 : decode cX0_dropOldest 25 = .ok (.iload_n 2, 1) := by decide +kernel
theorem dX0_dropOldest_26 : decode cX0_dropOldest 26 = .ok (.aaload, 1) := by decide +kernel
theorem dX0_dropOldest_27 : decode cX0_dropOldest 27 = .ok (.aastore, 1) := by decide +kernel
theorem dX0_dropOldest_28 : decode cX0_dropOldest 28 = .ok (.iinc 2 1, 3) := by decide +kernel
theorem dX0_dropOldest_31 : decode cX0_dropOldest 31 = .ok (.goto (-22), 3) := by decide +kernel
theorem dX0_dropOldest_34 : decode cX0_dropOldest 34 = .ok (.aload_n 0, 1) := by decide +kernel
theorem dX0_dropOldest_35 : decode cX0_dropOldest 35 = .ok (.getfield 11, 3) := by decide +kernel
theorem dX0_dropOldest_38 : decode cX0_dropOldest 38 = .ok (.iconst 3, 1) := by decide +kernel
theorem dX0_dropOldest_39 : decode cX0_dropOldest 39 = .ok (.aload_n 1, 1) := by decide +kernel
theorem dX0_dropOldest_40 : decode cX0_dropOldest 40 = .ok (.aastore, 1) := by decide +kernel
theorem dX0_dropOldest_41 : decode cX0_dropOldest 41 = .ok (.aload_n 0, 1) := by decide +kernel
theorem dX0_dropOldest_42 : decode cX0_dropOldest 42 = .ok (.dup, 1) := by decide +kernel
theorem dX0_dropOldest_43 : decode cX0_dropOldest 43 = .ok (.getfield 18, 3) := by decide +kernel
theorem dX0_dropOldest_46 : decode cX0_dropOldest 46 = .ok (.iconst 1, 1) := by decide +kernel
theorem dX0_dropOldest_47 : decode cX0_dropOldest 47 = .ok (.isub, 1) := by decide +kernel
theorem dX0_dropOldest_48 : decode cX0_dropOldest 48 = .ok (.putfield 18, 3) := by decide +kernel
theorem dX0_dropOldest_51 : decode cX0_dropOldest 51 = .ok (.return_, 1) := by decide +kernel
set_option maxRecDepth 20000 in
theorem ggX0_takeBack_X4_copyFrom : GoodIn wsX0_takeBack wsX4_copyFrom := goodIn_r _ [7, 8, 9, 10, 11, 12, 13, 14, 15, 16, 17, 18, 19, 20, 21, 22, 23, 24, 25, 26, 27, 28, 29, 30, 31, 32, 33, 34, 35, 36, 37, 38, 39, 40, 41, 42, 45, 46, 47, 48, 49, 50, 51, 52, 53, 54, 55, 56, 57, 58, 59] (by decide +kernel) (by decide +kernel)
set_option maxRecDepth 20000 in
theorem gX0_takeBack_X4_copyFrom : GoodIn wsX0_takeBack (wsV RX0 25 RX4 yX4_copyFrom wsX4_copyFrom) := goodIn_app (goodIn_of _ (by decide +kernel)) ggX0_takeBack_X4_copyFrom
theorem dX0_takeBack_0 : decode cX0_takeBack 0 = .ok (.aload_n 0, 1) := by decide +kernel
theorem dX0_takeBack_1 : decode cX0_takeBack 1 = .ok (.getfield 18, 3) := by decide +kernel
theorem dX0_takeBack_4 : decode cX0_takeBack 4 = .ok (.ifCond .ne 5, 3) := by decide +kernel
theorem dX0_takeBack_7 : decode cX0_takeBack 7 = .ok (.iconst 0, 1) := by decide +kernel
theorem dX0_takeBack_8 : decode cX0_takeBack 8 = .ok (.ireturn, 1) := by decide +kernel
theorem dX0_takeBack_9 : decode cX0_takeBack 9 = .ok (.aload_n 0, 1) := by decide +kernel
theorem dX0_takeBack_10 : decode cX0_takeBack 10 = .ok (.dup, 1) := by decide +kernel
theorem dX0_takeBack_11 : decode cX0_takeBack 11 = .ok (.getfield 18, 3) := by decide +kernel
theorem dX0_takeBack_14 : decode cX0_takeBack 14 = .ok (.iconst 1, 1) := by decide +kernel
theorem dX0_takeBack_15 : decode cX0_takeBack 15 = .ok (.isub, 1) := by decide +kernel
theorem dX0_takeBack_16 : decode cX0_takeBack 16 = .ok (.putfield 18, 3) := by decide +kernel
theorem dX0_takeBack_19 : decode cX0_takeBack 19 = .ok (.aload_n 1, 1) := by decide +kernel
theorem dX0_takeBack_20 : decode cX0_takeBack 20 = .ok (.aload_n 0, 1) := by decide +kernel
theorem dX0_takeBack_21 : decode cX0_takeBack 21 = .ok (.getfield 11, 3) := by decide +kernel
theorem dX0_takeBack_24 : decode cX0_takeBack 24 = .ok (.aload_n 0, 1) := by decide +kernel
theorem dX0_takeBack_25 : decode cX0_takeBack 25 = .ok (.getfield 18, 3) := by decide +kernel
theorem dX0_takeBack_28 : decode cX0_takeBack 28 = .ok (.aaload, 1) := by decide +kernel
theorem dX0_takeBack_29 : decode cX0_takeBack 29 = .ok (.invokevirtual 25, 3) := by decide +kernel
theorem dX0_takeBack_32 : decode cX0_takeBack 32 = .ok (.iconst 1, 1) := by decide +kernel
theorem dX0_takeBack_33 : decode cX0_takeBack 33 = .ok (.ireturn, 1) := by decide +kernel
theorem dX1_init_0 : decode cX1_init 0 = .ok (.aload_n 0, 1) := by decide +kernel
theorem dX1_init_1 : decode cX1_init 1 = .ok (.invokespecial 3, 3) := by decide +kernel
theorem dX1_init_4 : decode cX1_init 4 = .ok (.aload_n 0, 1) := by decide +kernel
theorem dX1_init_5 : decode cX1_init 5 = .ok (.sipush 702, 3) := by decide +kernel
theorem dX1_init_8 : decode cX1_init 8 = .ok (.newarray .int, 2) := by decide +kernel
theorem dX1_init_10 : decode cX1_init 10 = .ok (.putfield 9, 3) := by decide +kernel
theorem dX1_init_13 : decode cX1_init 13 = .ok (.aload_n 0, 1) := by decide +kernel
theorem dX1_init_14 : decode cX1_init 14 = .ok (.sipush 702, 3) := by decide +kernel
theorem dX1_init_17 : decode cX1_init 17 = .ok (.newarray .int, 2) := by decide +kernel
theorem dX1_init_19 : decode cX1_init 19 = .ok (.putfield 15, 3) := by decide +kernel
theorem dX1_init_22 : decode cX1_init 22 = .ok (.return_, 1) := by decide +kernel
set_option maxRecDepth 20000 in
theorem ggX1_triesOf_X8_isPart : GoodIn wsX1_triesOf wsX8_isPart := goodIn_r _ [4] (by decide +kernel) (by decide +kernel)
set_option maxRecDepth 20000 in
theorem gX1_triesOf_X8_isPart_n18 : GoodIn wsX1_triesOf (wsX8_isPart) := ggX1_triesOf_X8_isPart
theorem dX1_triesOf_0 : decode cX1_triesOf 0 = .ok (.iload_n 1, 1) := by decide +kernel
theorem dX1_triesOf_1 : decode cX1_triesOf 1 = .ok (.invokestatic 18, 3) := by decide +kernel
theorem dX1_triesOf_4 : decode cX1_triesOf 4 = .ok (.ifCond .eq 12, 3) := by decide +kernel
theorem dX1_triesOf_7 : decode cX1_triesOf 7 = .ok (.aload_n 0, 1) := by decide +kernel
theorem dX1_triesOf_8 : decode cX1_triesOf 8 = .ok (.getfield 9, 3) := by decide +kernel
theorem dX1_triesOf_11 : decode cX1_triesOf 11 = .ok (.iload_n 1, 1) := by decide +kernel
theorem dX1_triesOf_12 : decode cX1_triesOf 12 = .ok (.iaload, 1) := by decide +kernel
theorem dX1_triesOf_13 : decode cX1_triesOf 13 = .ok (.goto 4, 3) := by decide +kernel
theorem dX1_triesOf_16 : decode cX1_triesOf 16 = .ok (.iconst 0, 1) := by decide +kernel
theorem dX1_triesOf_17 : decode cX1_triesOf 17 = .ok (.ireturn, 1) := by decide +kernel
set_option maxRecDepth 20000 in
theorem ggX1_slipsOf_X8_isPart : GoodIn wsX1_slipsOf wsX8_isPart := goodIn_r _ [4] (by decide +kernel) (by decide +kernel)
set_option maxRecDepth 20000 in
theorem gX1_slipsOf_X8_isPart_n18 : GoodIn wsX1_slipsOf (wsX8_isPart) := ggX1_slipsOf_X8_isPart
theorem dX1_slipsOf_0 : decode cX1_slipsOf 0 = .ok (.iload_n 1, 1) := by decide +kernel
theorem dX1_slipsOf_1 : decode cX1_slipsOf 1 = .ok (.invokestatic 18, 3) := by decide +kernel
theorem dX1_slipsOf_4 : decode cX1_slipsOf 4 = .ok (.ifCond .eq 12, 3) := by decide +kernel
theorem dX1_slipsOf_7 : decode cX1_slipsOf 7 = .ok (.aload_n 0, 1) := by decide +kernel
theorem dX1_slipsOf_8 : decode cX1_slipsOf 8 = .ok (.getfield 15, 3) := by decide +kernel
theorem dX1_slipsOf_11 : decode cX1_slipsOf 11 = .ok (.iload_n 1, 1) := by decide +kernel
theorem dX1_slipsOf_12 : decode cX1_slipsOf 12 = .ok (.iaload, 1) := by decide +kernel
theorem dX1_slipsOf_13 : decode cX1_slipsOf 13 = .ok (.goto 4, 3) := by decide +kernel
theorem dX1_slipsOf_16 : decode cX1_slipsOf 16 = .ok (.iconst 0, 1) := by decide +kernel
theorem dX1_slipsOf_17 : decode cX1_slipsOf 17 = .ok (.ireturn, 1) := by decide +kernel
set_option maxRecDepth 20000 in
theorem ggX1_needOf_X1_slipsOf : GoodIn wsX1_needOf wsX1_slipsOf := goodIn_r _ [9, 10, 11, 12, 13, 19, 20] (by decide +kernel) (by decide +kernel)
set_option maxRecDepth 20000 in
theorem gX1_needOf_X1_slipsOf : GoodIn wsX1_needOf (wsV RX1 22 RX1 yX1_slipsOf wsX1_slipsOf) := goodIn_app (goodIn_of _ (by decide +kernel)) ggX1_needOf_X1_slipsOf
set_option maxRecDepth 20000 in
theorem ggX1_needOf_X1_triesOf : GoodIn wsX1_needOf wsX1_triesOf := goodIn_r _ [17, 18, 11, 12, 13, 19, 20] (by decide +kernel) (by decide +kernel)
set_option maxRecDepth 20000 in
theorem gX1_needOf_X1_triesOf : GoodIn wsX1_needOf (wsV RX1 26 RX1 yX1_triesOf wsX1_triesOf) := goodIn_app (goodIn_of _ (by decide +kernel)) ggX1_needOf_X1_triesOf
theorem dX1_needOf_0 : decode cX1_needOf 0 = .ok (.bipush 100, 2) := by decide +kernel
theorem dX1_needOf_2 : decode cX1_needOf 2 = .ok (.aload_n 0, 1) := by decide +kernel
theorem dX1_needOf_3 : decode cX1_needOf 3 = .ok (.iload_n 1, 1) := by decide +kernel
theorem dX1_needOf_4 : decode cX1_needOf 4 = .ok (.invokevirtual 22, 3) := by decide +kernel
theorem dX1_needOf_7 : decode cX1_needOf 7 = .ok (.imul, 1) := by decide +kernel
theorem dX1_needOf_8 : decode cX1_needOf 8 = .ok (.aload_n 0, 1) := by decide +kernel
theorem dX1_needOf_9 : decode cX1_needOf 9 = .ok (.iload_n 1, 1) := by decide +kernel
theorem dX1_needOf_10 : decode cX1_needOf 10 = .ok (.invokevirtual 26, 3) := by decide +kernel
theorem dX1_needOf_13 : decode cX1_needOf 13 = .ok (.iconst 0, 1) := by decide +kernel
theorem dX1_needOf_14 : decode cX1_needOf 14 = .ok (.invokestatic 29, 3) := by decide +kernel
theorem dX1_needOf_17 : decode cX1_needOf 17 = .ok (.iconst 2, 1) := by decide +kernel
theorem dX1_needOf_18 : decode cX1_needOf 18 = .ok (.iadd, 1) := by decide +kernel
theorem dX1_needOf_19 : decode cX1_needOf 19 = .ok (.idiv, 1) := by decide +kernel
theorem dX1_needOf_20 : decode cX1_needOf 20 = .ok (.ireturn, 1) := by decide +kernel
set_option maxRecDepth 20000 in
theorem ggX1_isUntried_X1_triesOf : GoodIn wsX1_isUntried wsX1_triesOf := goodIn_r _ [5, 6, 7, 8, 9, 10, 11] (by decide +kernel) (by decide +kernel)
set_option maxRecDepth 20000 in
theorem gX1_isUntried_X1_triesOf : GoodIn wsX1_isUntried (wsV RX1 26 RX1 yX1_triesOf wsX1_triesOf) := goodIn_app (goodIn_of _ (by decide +kernel)) ggX1_isUntried_X1_triesOf
theorem dX1_isUntried_0 : decode cX1_isUntried 0 = .ok (.aload_n 0, 1) := by decide +kernel
theorem dX1_isUntried_1 : decode cX1_isUntried 1 = .ok (.iload_n 1, 1) := by decide +kernel
theorem dX1_isUntried_2 : decode cX1_isUntried 2 = .ok (.invokevirtual 26, 3) := by decide +kernel
theorem dX1_isUntried_5 : decode cX1_isUntried 5 = .ok (.ifCond .ne 7, 3) := by decide +kernel
theorem dX1_isUntried_8 : decode cX1_isUntried 8 = .ok (.iconst 1, 1) := by decide +kernel
theorem dX1_isUntried_9 : decode cX1_isUntried 9 = .ok (.goto 4, 3) := by decide +kernel
theorem dX1_isUntried_12 : decode cX1_isUntried 12 = .ok (.iconst 0, 1) := by decide +kernel
theorem dX1_isUntried_13 : decode cX1_isUntried 13 = .ok (.ireturn, 1) := by decide +kernel
set_option maxRecDepth 20000 in
theorem ggX1_addTry_X8_isPart : GoodIn wsX1_addTry wsX8_isPart := goodIn_r _ [4] (by decide +kernel) (by decide +kernel)
set_option maxRecDepth 20000 in
theorem gX1_addTry_X8_isPart_n18 : GoodIn wsX1_addTry (wsX8_isPart) := ggX1_addTry_X8_isPart
theorem dX1_addTry_0 : decode cX1_addTry 0 = .ok (.iload_n 1, 1) := by decide +kernel
theorem dX1_addTry_1 : decode cX1_addTry 1 = .ok (.invokestatic 18, 3) := by decide +kernel
theorem dX1_addTry_4 : decode cX1_addTry 4 = .ok (.ifCond .eq 25, 3) := by decide +kernel
theorem dX1_addTry_7 : decode cX1_addTry 7 = .ok (.aload_n 0, 1) := by decide +kernel
theorem dX1_addTry_8 : decode cX1_addTry 8 = .ok (.getfield 9, 3) := by decide +kernel
theorem dX1_addTry_11 : decode cX1_addTry 11 = .ok (.iload_n 1, 1) := by decide +kernel
theorem dX1_addTry_12 : decode cX1_addTry 12 = .ok (.iaload, 1) := by decide +kernel
theorem dX1_addTry_13 : decode cX1_addTry 13 = .ok (.sipush 9999, 3) := by decide +kernel
theorem dX1_addTry_16 : decode cX1_addTry 16 = .ok (.if_icmp .ge 13, 3) := by decide +kernel
theorem dX1_addTry_19 : decode cX1_addTry 19 = .ok (.aload_n 0, 1) := by decide +kernel
theorem dX1_addTry_20 : decode cX1_addTry 20 = .ok (.getfield 9, 3) := by decide +kernel
theorem dX1_addTry_23 : decode cX1_addTry 23 = .ok (.iload_n 1, 1) := by decide +kernel
theorem dX1_addTry_24 : decode cX1_addTry 24 = .ok (.dup2, 1) := by decide +kernel
theorem dX1_addTry_25 : decode cX1_addTry 25 = .ok (.iaload, 1) := by decide +kernel
theorem dX1_addTry_26 : decode cX1_addTry 26 = .ok (.iconst 1, 1) := by decide +kernel
theorem dX1_addTry_27 : decode cX1_addTry 27 = .ok (.iadd, 1) := by decide +kernel
theorem dX1_addTry_28 : decode cX1_addTry 28 = .ok (.iastore, 1) := by decide +kernel
theorem dX1_addTry_29 : decode cX1_addTry 29 = .ok (.return_, 1) := by decide +kernel
set_option maxRecDepth 20000 in
theorem ggX1_addSlip_X8_isPart : GoodIn wsX1_addSlip wsX8_isPart := goodIn_r _ [4] (by decide +kernel) (by decide +kernel)
set_option maxRecDepth 20000 in
theorem gX1_addSlip_X8_isPart_n18 : GoodIn wsX1_addSlip (wsX8_isPart) := ggX1_addSlip_X8_isPart
theorem dX1_addSlip_0 : decode cX1_addSlip 0 = .ok (.iload_n 1, 1) := by decide +kernel
theorem dX1_addSlip_1 : decode cX1_addSlip 1 = .ok (.invokestatic 18, 3) := by decide +kernel
theorem dX1_addSlip_4 : decode cX1_addSlip 4 = .ok (.ifCond .eq 25, 3) := by decide +kernel
theorem dX1_addSlip_7 : decode cX1_addSlip 7 = .ok (.aload_n 0, 1) := by decide +kernel
theorem dX1_addSlip_8 : decode cX1_addSlip 8 = .ok (.getfield 15, 3) := by decide +kernel
theorem dX1_addSlip_11 : decode cX1_addSlip 11 = .ok (.iload_n 1, 1) := by decide +kernel
theorem dX1_addSlip_12 : decode cX1_addSlip 12 = .ok (.iaload, 1) := by decide +kernel
theorem dX1_addSlip_13 : decode cX1_addSlip 13 = .ok (.sipush 9999, 3) := by decide +kernel
theorem dX1_addSlip_16 : decode cX1_addSlip 16 = .ok (.if_icmp .ge 13, 3) := by decide +kernel
theorem dX1_addSlip_19 : decode cX1_addSlip 19 = .ok (.aload_n 0, 1) := by decide +kernel
theorem dX1_addSlip_20 : decode cX1_addSlip 20 = .ok (.getfield 15, 3) := by decide +kernel
theorem dX1_addSlip_23 : decode cX1_addSlip 23 = .ok (.iload_n 1, 1) := by decide +kernel
theorem dX1_addSlip_24 : decode cX1_addSlip 24 = .ok (.dup2, 1) := by decide +kernel
theorem dX1_addSlip_25 : decode cX1_addSlip 25 = .ok (.iaload, 1) := by decide +kernel
theorem dX1_addSlip_26 : decode cX1_addSlip 26 = .ok (.iconst 1, 1) := by decide +kernel
theorem dX1_addSlip_27 : decode cX1_addSlip 27 = .ok (.iadd, 1) := by decide +kernel
theorem dX1_addSlip_28 : decode cX1_addSlip 28 = .ok (.iastore, 1) := by decide +kernel
theorem dX1_addSlip_29 : decode cX1_addSlip 29 = .ok (.return_, 1) := by decide +kernel
set_option maxRecDepth 20000 in
theorem ggX1_addTriesOf_X1_addTry : GoodIn wsX1_addTriesOf wsX1_addTry := goodIn_r _ [5, 6, 7, 8, 9, 16, 17] (by decide +kernel) (by decide +kernel)
set_option maxRecDepth 20000 in
theorem gX1_addTriesOf_X1_addTry : GoodIn wsX1_addTriesOf (wsV RX1 44 RX1 yX1_addTry wsX1_addTry) := goodIn_app (goodIn_of _ (by decide +kernel)) ggX1_addTriesOf_X1_addTry
set_option maxRecDepth 20000 in
theorem ggX1_addTriesOf_X8_joinPart : GoodIn wsX1_addTriesOf wsX8_joinPart := goodIn_r _ [11] (by decide +kernel) (by decide +kernel)
set_option maxRecDepth 20000 in
theorem gX1_addTriesOf_X8_joinPart_n48 : GoodIn wsX1_addTriesOf (wsX8_joinPart) := ggX1_addTriesOf_X8_joinPart
theorem dX1_addTriesOf_0 : decode cX1_addTriesOf 0 = .ok (.iconst 0, 1) := by decide +kernel
theorem dX1_addTriesOf_1 : decode cX1_addTriesOf 1 = .ok (.istore_n 2, 1) := by decide +kernel
theorem dX1_addTriesOf_2 : decode cX1_addTriesOf 2 = .ok (.iload_n 2, 1) := by decide +kernel
theorem dX1_addTriesOf_3 : decode cX1_addTriesOf 3 = .ok (.aload_n 1, 1) := by decide +kernel
theorem dX1_addTriesOf_4 : decode cX1_addTriesOf 4 = .ok (.getfield 35, 3) := by decide +kernel
theorem dX1_addTriesOf_7 : decode cX1_addTriesOf 7 = .ok (.if_icmp .ge 44, 3) := by decide +kernel
theorem dX1_addTriesOf_10 : decode cX1_addTriesOf 10 = .ok (.aload_n 0, 1) := by decide +kernel
theorem dX1_addTriesOf_11 : decode cX1_addTriesOf 11 = .ok (.aload_n 1, 1) := by decide +kernel
theorem dX1_addTriesOf_12 : decode cX1_addTriesOf 12 = .ok (.getfield 41, 3) := by decide +kernel
theorem dX1_addTriesOf_15 : decode cX1_addTriesOf 15 = .ok (.iload_n 2, 1) := by decide +kernel
theorem dX1_addTriesOf_16 : decode cX1_addTriesOf 16 = .ok (.iaload, 1) := by decide +kernel
theorem dX1_addTriesOf_17 : decode cX1_addTriesOf 17 = .ok (.invokevirtual 44, 3) := by decide +kernel
theorem dX1_addTriesOf_20 : decode cX1_addTriesOf 20 = .ok (.iload_n 2, 1) := by decide +kernel
theorem dX1_addTriesOf_21 : decode cX1_addTriesOf 21 = .ok (.ifCond .le 24, 3) := by decide +kernel
theorem dX1_addTriesOf_24 : decode cX1_addTriesOf 24 = .ok (.aload_n 0, 1) := by decide +kernel
theorem dX1_addTriesOf_25 : decode cX1_addTriesOf 25 = .ok (.aload_n 1, 1) := by decide +kernel
theorem dX1_addTriesOf_26 : decode cX1_addTriesOf 26 = .ok (.getfield 41, 3) := by decide +kernel
theorem dX1_addTriesOf_29 : decode cX1_addTriesOf 29 = .ok (.iload_n 2, 1) := by decide +kernel
theorem dX1_addTriesOf_30 : decode cX1_addTriesOf 30 = .ok (.iconst 1, 1) := by decide +kernel
theorem dX1_addTriesOf_31 : decode cX1_addTriesOf 31 = .ok (.isub, 1) := by decide +kernel
theorem dX1_addTriesOf_32 : decode cX1_addTriesOf 32 = .ok (.iaload, 1) := by decide +kernel
theorem dX1_addTriesOf_33 : decode cX1_addTriesOf 33 = .ok (.aload_n 1, 1) := by decide +kernel
theorem dX1_addTriesOf_34 : decode cX1_addTriesOf 34 = .ok (.getfield 41, 3) := by decide +kernel
theorem dX1_addTriesOf_37 : decode cX1_addTriesOf 37 = .ok (.iload_n 2, 1) := by decide +kernel
theorem dX1_addTriesOf_38 : decode cX1_addTriesOf 38 = .ok (.iaload, 1) := by decide +kernel
theorem dX1_addTriesOf_39 : decode cX1_addTriesOf 39 = .ok (.invokestatic 48, 3) := by decide +kernel
theorem dX1_addTriesOf_42 : decode cX1_addTriesOf 42 = .ok (.invokevirtual 44, 3) := by decide +kernel
theorem dX1_addTriesOf_45 : decode cX1_addTriesOf 45 = .ok (.iinc 2 1, 3) := by decide +kernel
theorem dX1_addTriesOf_48 : decode cX1_addTriesOf 48 = .ok (.goto (-46), 3) := by decide +kernel
theorem dX1_addTriesOf_51 : decode cX1_addTriesOf 51 = .ok (.return_, 1) := by decide +kernel
theorem dX1_fade_0 : decode cX1_fade 0 = .ok (.iconst 0, 1) := by decide +kernel
theorem dX1_fade_1 : decode cX1_fade 1 = .ok (.istore_n 2, 1) := by decide +kernel
theorem dX1_fade_2 : decode cX1_fade 2 = .ok (.iconst 0, 1) := by decide +kernel
theorem dX1_fade_3 : decode cX1_fade 3 = .ok (.istore_n 3, 1) := by decide +kernel
theorem dX1_fade_4 : decode cX1_fade 4 = .ok (.iload_n 3, 1) := by decide +kernel
theorem dX1_fade_5 : decode cX1_fade 5 = .ok (.sipush 702, 3) := by decide +kernel
theorem dX1_fade_8 : decode cX1_fade 8 = .ok (.if_icmp .ge 62, 3) := by decide +kernel
theorem dX1_fade_11 : decode cX1_fade 11 = .ok (.aload_n 0, 1) := by decide +kernel
theorem dX1_fade_12 : decode cX1_fade 12 = .ok (.getfield 9, 3) := by decide +kernel
theorem dX1_fade_15 : decode cX1_fade 15 = .ok (.iload_n 3, 1) := by decide +kernel
theorem dX1_fade_16 : decode cX1_fade 16 = .ok (.iaload, 1) := by decide +kernel
theorem dX1_fade_17 : decode cX1_fade 17 = .ok (.ifCond .le 7, 3) := by decide +kernel
theorem dX1_fade_20 : decode cX1_fade 20 = .ok (.iconst 1, 1) := by decide +kernel
theorem dX1_fade_21 : decode cX1_fade 21 = .ok (.goto 4, 3) := by decide +kernel
theorem dX1_fade_24 : decode cX1_fade 24 = .ok (.iconst 0, 1) := by decide +kernel
theorem dX1_fade_25 : decode cX1_fade 25 = .ok (.istore 4, 2) := by decide +kernel
theorem dX1_fade_27 : decode cX1_fade 27 = .ok (.aload_n 0, 1) := by decide +kernel
theorem dX1_fade_28 : decode cX1_fade 28 = .ok (.getfield 9, 3) := by decide +kernel
theorem dX1_fade_31 : decode cX1_fade 31 = .ok (.iload_n 3, 1) := by decide +kernel
theorem dX1_fade_32 : decode cX1_fade 32 = .ok (.dup2, 1) := by decide +kernel
theorem dX1_fade_33 : decode cX1_fade 33 = .ok (.iaload, 1) := by decide +kernel
theorem dX1_fade_34 : decode cX1_fade 34 = .ok (.iload_n 1, 1) := by decide +kernel
theorem dX1_fade_35 : decode cX1_fade 35 = .ok (.ishr, 1) := by decide +kernel
theorem dX1_fade_36 : decode cX1_fade 36 = .ok (.iastore, 1) := by decide +kernel
theorem dX1_fade_37 : decode cX1_fade 37 = .ok (.aload_n 0, 1) := by decide +kernel
theorem dX1_fade_38 : decode cX1_fade 38 = .ok (.getfield 15, 3) := by decide +kernel
theorem dX1_fade_41 : decode cX1_fade 41 = .ok (.iload_n 3, 1) := by decide +kernel
theorem dX1_fade_42 : decode cX1_fade 42 = .ok (.dup2, 1) := by decide +kernel
theorem dX1_fade_43 : decode cX1_fade 43 = .ok (.iaload, 1) := by decide +kernel
theorem dX1_fade_44 : decode cX1_fade 44 = .ok (.iload_n 1, 1) := by decide +kernel
theorem dX1_fade_45 : decode cX1_fade 45 = .ok (.ishr, 1) := by decide +kernel
theorem dX1_fade_46 : decode cX1_fade 46 = .ok (.iastore, 1) := by decide +kernel
theorem dX1_fade_47 : decode cX1_fade 47 = .ok (.iload 4, 2) := by decide +kernel
theorem dX1_fade_49 : decode cX1_fade 49 = .ok (.ifCond .eq 15, 3) := by decide +kernel
theorem dX1_fade_52 : decode cX1_fade 52 = .ok (.aload_n 0, 1) := by decide +kernel
theorem dX1_fade_53 : decode cX1_fade 53 = .ok (.getfield 9, 3) := by decide +kernel
theorem dX1_fade_56 : decode cX1_fade 56 = .ok (.iload_n 3, 1) := by decide +kernel
theorem dX1_fade_57 : decode cX1_fade 57 = .ok (.iaload, 1) := by decide +kernel
theorem dX1_fade_58 : decode cX1_fade 58 = .ok (.ifCond .ne 6, 3) := by decide +kernel
theorem dX1_fade_61 : decode cX1_fade 61 = .ok (.iinc 2 1, 3) := by decide +kernel
theorem dX1_fade_64 : decode cX1_fade 64 = .ok (.iinc 3 1, 3) := by decide +kernel
theorem dX1_fade_67 : decode cX1_fade 67 = .ok (.goto (-63), 3) := by decide +kernel
theorem dX1_fade_70 : decode cX1_fade 70 = .ok (.iload_n 2, 1) := by decide +kernel
theorem dX1_fade_71 : decode cX1_fade 71 = .ok (.ireturn, 1) := by decide +kernel
set_option maxRecDepth 20000 in
theorem ggX1_needOfAll_X1_needOf : GoodIn wsX1_needOfAll wsX1_needOf := goodIn_r _ [5, 6, 7, 8, 9, 10, 11, 12, 4, 13, 14, 15, 16, 17, 18, 19, 20, 21, 22, 27, 28] (by decide +kernel) (by decide +kernel)
set_option maxRecDepth 20000 in
theorem gX1_needOfAll_X1_needOf : GoodIn wsX1_needOfAll (wsV RX1 57 RX1 yX1_needOf wsX1_needOf) := goodIn_app (goodIn_of _ (by decide +kernel)) ggX1_needOfAll_X1_needOf
theorem dX1_needOfAll_0 : decode cX1_needOfAll 0 = .ok (.iconst 0, 1) := by decide +kernel
theorem dX1_needOfAll_1 : decode cX1_needOfAll 1 = .ok (.istore_n 2, 1) := by decide +kernel
theorem dX1_needOfAll_2 : decode cX1_needOfAll 2 = .ok (.iconst 0, 1) := by decide +kernel
theorem dX1_needOfAll_3 : decode cX1_needOfAll 3 = .ok (.istore_n 3, 1) := by decide +kernel
theorem dX1_needOfAll_4 : decode cX1_needOfAll 4 = .ok (.iload_n 3, 1) := by decide +kernel
theorem dX1_needOfAll_5 : decode cX1_needOfAll 5 = .ok (.aload_n 1, 1) := by decide +kernel
theorem dX1_needOfAll_6 : decode cX1_needOfAll 6 = .ok (.getfield 51, 3) := by decide +kernel
theorem dX1_needOfAll_9 : decode cX1_needOfAll 9 = .ok (.if_icmp .ge 22, 3) := by decide +kernel
theorem dX1_needOfAll_12 : decode cX1_needOfAll 12 = .ok (.iload_n 2, 1) := by decide +kernel
theorem dX1_needOfAll_13 : decode cX1_needOfAll 13 = .ok (.aload_n 0, 1) := by decide +kernel
theorem dX1_needOfAll_14 : decode cX1_needOfAll 14 = .ok (.aload_n 1, 1) := by decide +kernel
theorem dX1_needOfAll_15 : decode cX1_needOfAll 15 = .ok (.getfield 54, 3) := by decide +kernel
theorem dX1_needOfAll_18 : decode cX1_needOfAll 18 = .ok (.iload_n 3, 1) := by decide +kernel
theorem dX1_needOfAll_19 : decode cX1_needOfAll 19 = .ok (.iaload, 1) := by decide +kernel
theorem dX1_needOfAll_20 : decode cX1_needOfAll 20 = .ok (.invokevirtual 57, 3) := by decide +kernel
theorem dX1_needOfAll_23 : decode cX1_needOfAll 23 = .ok (.iadd, 1) := by decide +kernel
theorem dX1_needOfAll_24 : decode cX1_needOfAll 24 = .ok (.istore_n 2, 1) := by decide +kernel
theorem dX1_needOfAll_25 : decode cX1_needOfAll 25 = .ok (.iinc 3 1, 3) := by decide +kernel
theorem dX1_needOfAll_28 : decode cX1_needOfAll 28 = .ok (.goto (-24), 3) := by decide +kernel
theorem dX1_needOfAll_31 : decode cX1_needOfAll 31 = .ok (.iload_n 2, 1) := by decide +kernel
theorem dX1_needOfAll_32 : decode cX1_needOfAll 32 = .ok (.ireturn, 1) := by decide +kernel
set_option maxRecDepth 20000 in
theorem ggX1_untriedOf_X1_isUntried : GoodIn wsX1_untriedOf wsX1_isUntried := goodIn_r _ [5, 6, 7, 8, 4, 9, 10, 11, 12, 13, 18, 19] (by decide +kernel) (by decide +kernel)
set_option maxRecDepth 20000 in
theorem gX1_untriedOf_X1_isUntried : GoodIn wsX1_untriedOf (wsV RX1 60 RX1 yX1_isUntried wsX1_isUntried) := goodIn_app (goodIn_of _ (by decide +kernel)) ggX1_untriedOf_X1_isUntried
theorem dX1_untriedOf_0 : decode cX1_untriedOf 0 = .ok (.iconst 0, 1) := by decide +kernel
theorem dX1_untriedOf_1 : decode cX1_untriedOf 1 = .ok (.istore_n 2, 1) := by decide +kernel
theorem dX1_untriedOf_2 : decode cX1_untriedOf 2 = .ok (.iconst 0, 1) := by decide +kernel
theorem dX1_untriedOf_3 : decode cX1_untriedOf 3 = .ok (.istore_n 3, 1) := by decide +kernel
theorem dX1_untriedOf_4 : decode cX1_untriedOf 4 = .ok (.iload_n 3, 1) := by decide +kernel
theorem dX1_untriedOf_5 : decode cX1_untriedOf 5 = .ok (.aload_n 1, 1) := by decide +kernel
theorem dX1_untriedOf_6 : decode cX1_untriedOf 6 = .ok (.getfield 51, 3) := by decide +kernel
theorem dX1_untriedOf_9 : decode cX1_untriedOf 9 = .ok (.if_icmp .ge 25, 3) := by decide +kernel
theorem dX1_untriedOf_12 : decode cX1_untriedOf 12 = .ok (.aload_n 0, 1) := by decide +kernel
theorem dX1_untriedOf_13 : decode cX1_untriedOf 13 = .ok (.aload_n 1, 1) := by decide +kernel
theorem dX1_untriedOf_14 : decode cX1_untriedOf 14 = .ok (.getfield 54, 3) := by decide +kernel
theorem dX1_untriedOf_17 : decode cX1_untriedOf 17 = .ok (.iload_n 3, 1) := by decide +kernel
theorem dX1_untriedOf_18 : decode cX1_untriedOf 18 = .ok (.iaload, 1) := by decide +kernel
theorem dX1_untriedOf_19 : decode cX1_untriedOf 19 = .ok (.invokevirtual 60, 3) := by decide +kernel
theorem dX1_untriedOf_22 : decode cX1_untriedOf 22 = .ok (.ifCond .eq 6, 3) := by decide +kernel
theorem dX1_untriedOf_25 : decode cX1_untriedOf 25 = .ok (.iinc 2 1, 3) := by decide +kernel
theorem dX1_untriedOf_28 : decode cX1_untriedOf 28 = .ok (.iinc 3 1, 3) := by decide +kernel
theorem dX1_untriedOf_31 : decode cX1_untriedOf 31 = .ok (.goto (-27), 3) := by decide +kernel
theorem dX1_untriedOf_34 : decode cX1_untriedOf 34 = .ok (.iload_n 2, 1) := by decide +kernel
theorem dX1_untriedOf_35 : decode cX1_untriedOf 35 = .ok (.ireturn, 1) := by decide +kernel
set_option maxRecDepth 20000 in
theorem ggX1_greatestNeedOf_X1_needOf : GoodIn wsX1_greatestNeedOf wsX1_needOf := goodIn_r _ [9, 1, 2, 3, 4, 10, 11, 12, 8, 13, 14, 15, 16, 17, 18, 19, 20, 21, 22, 27, 28] (by decide +kernel) (by decide +kernel)
set_option maxRecDepth 20000 in
theorem gX1_greatestNeedOf_X1_needOf : GoodIn wsX1_greatestNeedOf (wsV RX1 57 RX1 yX1_needOf wsX1_needOf) := goodIn_app (goodIn_of _ (by decide +kernel)) ggX1_greatestNeedOf_X1_needOf
theorem dX1_greatestNeedOf_0 : decode cX1_greatestNeedOf 0 = .ok (.iconst 0, 1) := by decide +kernel
theorem dX1_greatestNeedOf_1 : decode cX1_greatestNeedOf 1 = .ok (.istore_n 2, 1) := by decide +kernel
theorem dX1_greatestNeedOf_2 : decode cX1_greatestNeedOf 2 = .ok (.iconst 0, 1) := by decide +kernel
theorem dX1_greatestNeedOf_3 : decode cX1_greatestNeedOf 3 = .ok (.istore_n 3, 1) := by decide +kernel
theorem dX1_greatestNeedOf_4 : decode cX1_greatestNeedOf 4 = .ok (.iload_n 3, 1) := by decide +kernel
theorem dX1_greatestNeedOf_5 : decode cX1_greatestNeedOf 5 = .ok (.aload_n 1, 1) := by decide +kernel
theorem dX1_greatestNeedOf_6 : decode cX1_greatestNeedOf 6 = .ok (.getfield 51, 3) := by decide +kernel
theorem dX1_greatestNeedOf_9 : decode cX1_greatestNeedOf 9 = .ok (.if_icmp .ge 24, 3) := by decide +kernel
theorem dX1_greatestNeedOf_12 : decode cX1_greatestNeedOf 12 = .ok (.iload_n 2, 1) := by decide +kernel
theorem dX1_greatestNeedOf_13 : decode cX1_greatestNeedOf 13 = .ok (.aload_n 0, 1) := by decide +kernel
theorem dX1_greatestNeedOf_14 : decode cX1_greatestNeedOf 14 = .ok (.aload_n 1, 1) := by decide +kernel
theorem dX1_greatestNeedOf_15 : decode cX1_greatestNeedOf 15 = .ok (.getfield 54, 3) := by decide +kernel
theorem dX1_greatestNeedOf_18 : decode cX1_greatestNeedOf 18 = .ok (.iload_n 3, 1) := by decide +kernel
theorem dX1_greatestNeedOf_19 : decode cX1_greatestNeedOf 19 = .ok (.iaload, 1) := by decide +kernel
theorem dX1_greatestNeedOf_20 : decode cX1_greatestNeedOf 20 = .ok (.invokevirtual 57, 3) := by decide +kernel
theorem dX1_greatestNeedOf_23 : decode cX1_greatestNeedOf 23 = .ok (.invokestatic 29, 3) := by decide +kernel
theorem dX1_greatestNeedOf_26 : decode cX1_greatestNeedOf 26 = .ok (.istore_n 2, 1) := by decide +kernel
theorem dX1_greatestNeedOf_27 : decode cX1_greatestNeedOf 27 = .ok (.iinc 3 1, 3) := by decide +kernel
theorem dX1_greatestNeedOf_30 : decode cX1_greatestNeedOf 30 = .ok (.goto (-26), 3) := by decide +kernel
theorem dX1_greatestNeedOf_33 : decode cX1_greatestNeedOf 33 = .ok (.iload_n 2, 1) := by decide +kernel
theorem dX1_greatestNeedOf_34 : decode cX1_greatestNeedOf 34 = .ok (.ireturn, 1) := by decide +kernel
set_option maxRecDepth 20000 in
theorem ggX1_greatestNeedFrom_X1_needOf : GoodIn wsX1_greatestNeedFrom wsX1_needOf := goodIn_r _ [9, 1, 2, 3, 4, 10, 11, 12, 8, 13, 14, 15, 16, 17, 18, 19, 20, 21, 22, 23, 24] (by decide +kernel) (by decide +kernel)
set_option maxRecDepth 20000 in
theorem gX1_greatestNeedFrom_X1_needOf : GoodIn wsX1_greatestNeedFrom (wsV RX1 57 RX1 yX1_needOf wsX1_needOf) := goodIn_app (goodIn_of _ (by decide +kernel)) ggX1_greatestNeedFrom_X1_needOf
theorem dX1_greatestNeedFrom_0 : decode cX1_greatestNeedFrom 0 = .ok (.iconst 0, 1) := by decide +kernel
theorem dX1_greatestNeedFrom_1 : decode cX1_greatestNeedFrom 1 = .ok (.istore_n 3, 1) := by decide +kernel
theorem dX1_greatestNeedFrom_2 : decode cX1_greatestNeedFrom 2 = .ok (.iload_n 1, 1) := by decide +kernel
theorem dX1_greatestNeedFrom_3 : decode cX1_greatestNeedFrom 3 = .ok (.istore 4, 2) := by decide +kernel
theorem dX1_greatestNeedFrom_5 : decode cX1_greatestNeedFrom 5 = .ok (.iload 4, 2) := by decide +kernel
theorem dX1_greatestNeedFrom_7 : decode cX1_greatestNeedFrom 7 = .ok (.iload_n 2, 1) := by decide +kernel
theorem dX1_greatestNeedFrom_8 : decode cX1_greatestNeedFrom 8 = .ok (.if_icmp .ge 20, 3) := by decide +kernel
theorem dX1_greatestNeedFrom_11 : decode cX1_greatestNeedFrom 11 = .ok (.iload_n 3, 1) := by decide +kernel
theorem dX1_greatestNeedFrom_12 : decode cX1_greatestNeedFrom 12 = .ok (.aload_n 0, 1) := by decide +kernel
theorem dX1_greatestNeedFrom_13 : decode cX1_greatestNeedFrom 13 = .ok (.iload 4, 2) := by decide +kernel
theorem dX1_greatestNeedFrom_15 : decode cX1_greatestNeedFrom 15 = .ok (.invokevirtual 57, 3) := by decide +kernel
theorem dX1_greatestNeedFrom_18 : decode cX1_greatestNeedFrom 18 = .ok (.invokestatic 29, 3) := by decide +kernel
theorem dX1_greatestNeedFrom_21 : decode cX1_greatestNeedFrom 21 = .ok (.istore_n 3, 1) := by decide +kernel
theorem dX1_greatestNeedFrom_22 : decode cX1_greatestNeedFrom 22 = .ok (.iinc 4 1, 3) := by decide +kernel
theorem dX1_greatestNeedFrom_25 : decode cX1_greatestNeedFrom 25 = .ok (.goto (-20), 3) := by decide +kernel
theorem dX1_greatestNeedFrom_28 : decode cX1_greatestNeedFrom 28 = .ok (.iload_n 3, 1) := by decide +kernel
theorem dX1_greatestNeedFrom_29 : decode cX1_greatestNeedFrom 29 = .ok (.ireturn, 1) := by decide +kernel
set_option maxRecDepth 20000 in
theorem ggX1_triedFrom_X1_isUntried : GoodIn wsX1_triedFrom wsX1_isUntried := goodIn_r _ [5, 6, 7, 8, 4, 9, 10, 11, 12, 13, 14, 15] (by decide +kernel) (by decide +kernel)
set_option maxRecDepth 20000 in
theorem gX1_triedFrom_X1_isUntried : GoodIn wsX1_triedFrom (wsV RX1 60 RX1 yX1_isUntried wsX1_isUntried) := goodIn_app (goodIn_of _ (by decide +kernel)) ggX1_triedFrom_X1_isUntried
theorem dX1_triedFrom_0 : decode cX1_triedFrom 0 = .ok (.iconst 0, 1) := by decide +kernel
theorem dX1_triedFrom_1 : decode cX1_triedFrom 1 = .ok (.istore_n 3, 1) := by decide +kernel
theorem dX1_triedFrom_2 : decode cX1_triedFrom 2 = .ok (.iload_n 1, 1) := by decide +kernel
theorem dX1_triedFrom_3 : decode cX1_triedFrom 3 = .ok (.istore 4, 2) := by decide +kernel
theorem dX1_triedFrom_5 : decode cX1_triedFrom 5 = .ok (.iload 4, 2) := by decide +kernel
theorem dX1_triedFrom_7 : decode cX1_triedFrom 7 = .ok (.iload_n 2, 1) := by decide +kernel
theorem dX1_triedFrom_8 : decode cX1_triedFrom 8 = .ok (.if_icmp .ge 21, 3) := by decide +kernel
theorem dX1_triedFrom_11 : decode cX1_triedFrom 11 = .ok (.aload_n 0, 1) := by decide +kernel
theorem dX1_triedFrom_12 : decode cX1_triedFrom 12 = .ok (.iload 4, 2) := by decide +kernel
theorem dX1_triedFrom_14 : decode cX1_triedFrom 14 = .ok (.invokevirtual 60, 3) := by decide +kernel
theorem dX1_triedFrom_17 : decode cX1_triedFrom 17 = .ok (.ifCond .ne 6, 3) := by decide +kernel
theorem dX1_triedFrom_20 : decode cX1_triedFrom 20 = .ok (.iinc 3 1, 3) := by decide +kernel
theorem dX1_triedFrom_23 : decode cX1_triedFrom 23 = .ok (.iinc 4 1, 3) := by decide +kernel
theorem dX1_triedFrom_26 : decode cX1_triedFrom 26 = .ok (.goto (-21), 3) := by decide +kernel
theorem dX1_triedFrom_29 : decode cX1_triedFrom 29 = .ok (.iload_n 3, 1) := by decide +kernel
theorem dX1_triedFrom_30 : decode cX1_triedFrom 30 = .ok (.ireturn, 1) := by decide +kernel
theorem dX1_copyFrom_0 : decode cX1_copyFrom 0 = .ok (.aload_n 1, 1) := by decide +kernel
theorem dX1_copyFrom_1 : decode cX1_copyFrom 1 = .ok (.getfield 9, 3) := by decide +kernel
theorem dX1_copyFrom_4 : decode cX1_copyFrom 4 = .ok (.iconst 0, 1) := by decide +kernel
theorem dX1_copyFrom_5 : decode cX1_copyFrom 5 = .ok (.aload_n 0, 1) := by decide +kernel
theorem dX1_copyFrom_6 : decode cX1_copyFrom 6 = .ok (.getfield 9, 3) := by decide +kernel
theorem dX1_copyFrom_9 : decode cX1_copyFrom 9 = .ok (.iconst 0, 1) := by decide +kernel
theorem dX1_copyFrom_10 : decode cX1_copyFrom 10 = .ok (.sipush 702, 3) := by decide +kernel
theorem dX1_copyFrom_13 : decode cX1_copyFrom 13 = .ok (.invokestatic 63, 3) := by decide +kernel
theorem dX1_copyFrom_16 : decode cX1_copyFrom 16 = .ok (.aload_n 1, 1) := by decide +kernel
theorem dX1_copyFrom_17 : decode cX1_copyFrom 17 = .ok (.getfield 15, 3) := by decide +kernel
theorem dX1_copyFrom_20 : decode cX1_copyFrom 20 = .ok (.iconst 0, 1) := by decide +kernel
theorem dX1_copyFrom_21 : decode cX1_copyFrom 21 = .ok (.aload_n 0, 1) := by decide +kernel
theorem dX1_copyFrom_22 : decode cX1_copyFrom 22 = .ok (.getfield 15, 3) := by decide +kernel
theorem dX1_copyFrom_25 : decode cX1_copyFrom 25 = .ok (.iconst 0, 1) := by decide +kernel
theorem dX1_copyFrom_26 : decode cX1_copyFrom 26 = .ok (.sipush 702, 3) := by decide +kernel
theorem dX1_copyFrom_29 : decode cX1_copyFrom 29 = .ok (.invokestatic 63, 3) := by decide +kernel
theorem dX1_copyFrom_32 : decode cX1_copyFrom 32 = .ok (.return_, 1) := by decide +kernel
theorem dX2_init_0 : decode cX2_init 0 = .ok (.aload_n 0, 1) := by decide +kernel
theorem dX2_init_1 : decode cX2_init 1 = .ok (.invokespecial 3, 3) := by decide +kernel
theorem dX2_init_4 : decode cX2_init 4 = .ok (.aload_n 0, 1) := by decide +kernel
theorem dX2_init_5 : decode cX2_init 5 = .ok (.bipush 100, 2) := by decide +kernel
theorem dX2_init_7 : decode cX2_init 7 = .ok (.newarray .int, 2) := by decide +kernel
theorem dX2_init_9 : decode cX2_init 9 = .ok (.putfield 9, 3) := by decide +kernel
theorem dX2_init_12 : decode cX2_init 12 = .ok (.return_, 1) := by decide +kernel
set_option maxRecDepth 20000 in
theorem ggX2_partAt_X2_countNeeds : GoodIn wsX2_partAt wsX2_countNeeds := goodIn_r _ [6, 1, 7, 8, 9, 10, 11, 12, 13, 14, 15, 16, 17, 18, 19, 20, 21, 22, 23, 24, 25, 26, 27, 28, 32, 33, 34] (by decide +kernel) (by decide +kernel)
set_option maxRecDepth 20000 in
theorem gX2_partAt_X2_countNeeds : GoodIn wsX2_partAt (wsV RX2 15 RX2 yX2_countNeeds wsX2_countNeeds) := goodIn_app (goodIn_of _ (by decide +kernel)) ggX2_partAt_X2_countNeeds
set_option maxRecDepth 20000 in
theorem ggX2_partAt_X2_partWithNeed : GoodIn wsX2_partAt wsX2_partWithNeed := goodIn_r _ [31, 7, 8, 9, 10, 11, 12, 13, 14, 15, 16, 17, 18, 19, 20, 21, 22, 23, 24, 25, 26, 27, 28, 33, 34] (by decide +kernel) (by decide +kernel)
set_option maxRecDepth 20000 in
theorem gX2_partAt_X2_partWithNeed : GoodIn wsX2_partAt (va_wsS RX2 19 yX2_partWithNeed wsX2_partWithNeed) := goodIn_app (goodIn_of _ (by decide +kernel)) ggX2_partAt_X2_partWithNeed
theorem dX2_partAt_0 : decode cX2_partAt 0 = .ok (.aload_n 0, 1) := by decide +kernel
theorem dX2_partAt_1 : decode cX2_partAt 1 = .ok (.aload_n 1, 1) := by decide +kernel
theorem dX2_partAt_2 : decode cX2_partAt 2 = .ok (.iload_n 2, 1) := by decide +kernel
theorem dX2_partAt_3 : decode cX2_partAt 3 = .ok (.iload_n 3, 1) := by decide +kernel
theorem dX2_partAt_4 : decode cX2_partAt 4 = .ok (.invokevirtual 15, 3) := by decide +kernel
theorem dX2_partAt_7 : decode cX2_partAt 7 = .ok (.iload 4, 2) := by decide +kernel
theorem dX2_partAt_9 : decode cX2_partAt 9 = .ok (.istore 5, 2) := by decide +kernel
theorem dX2_partAt_11 : decode cX2_partAt 11 = .ok (.bipush 99, 2) := by decide +kernel
theorem dX2_partAt_13 : decode cX2_partAt 13 = .ok (.istore 6, 2) := by decide +kernel
theorem dX2_partAt_15 : decode cX2_partAt 15 = .ok (.iload 6, 2) := by decide +kernel
theorem dX2_partAt_17 : decode cX2_partAt 17 = .ok (.ifCond .le 44, 3) := by decide +kernel
theorem dX2_partAt_20 : decode cX2_partAt 20 = .ok (.iload 5, 2) := by decide +kernel
theorem dX2_partAt_22 : decode cX2_partAt 22 = .ok (.aload_n 0, 1) := by decide +kernel
theorem dX2_partAt_23 : decode cX2_partAt 23 = .ok (.getfield 9, 3) := by decide +kernel
theorem dX2_partAt_26 : decode cX2_partAt 26 = .ok (.iload 6, 2) := by decide +kernel
theorem dX2_partAt_28 : decode cX2_partAt 28 = .ok (.iaload, 1) := by decide +kernel
theorem dX2_partAt_29 : decode cX2_partAt 29 = .ok (.if_icmp .ge 14, 3) := by decide +kernel
theorem dX2_partAt_32 : decode cX2_partAt 32 = .ok (.aload_n 1, 1) := by decide +kernel
theorem dX2_partAt_33 : decode cX2_partAt 33 = .ok (.iload_n 2, 1) := by decide +kernel
theorem dX2_partAt_34 : decode cX2_partAt 34 = .ok (.iload_n 3, 1) := by decide +kernel
theorem dX2_partAt_35 : decode cX2_partAt 35 = .ok (.iload 6, 2) := by decide +kernel
theorem dX2_partAt_37 : decode cX2_partAt 37 = .ok (.iload 5, 2) := by decide +kernel
theorem dX2_partAt_39 : decode cX2_partAt 39 = .ok (.invokestatic 19, 3) := by decide +kernel
theorem dX2_partAt_42 : decode cX2_partAt 42 = .ok (.ireturn, 1) := by decide +kernel
theorem dX2_partAt_43 : decode cX2_partAt 43 = .ok (.iload 5, 2) := by decide +kernel
theorem dX2_partAt_45 : decode cX2_partAt 45 = .ok (.aload_n 0, 1) := by decide +kernel
theorem dX2_partAt_46 : decode cX2_partAt 46 = .ok (.getfield 9, 3) := by decide +kernel
theorem dX2_partAt_49 : decode cX2_partAt 49 = .ok (.iload 6, 2) := by decide +kernel
theorem dX2_partAt_51 : decode cX2_partAt 51 = .ok (.iaload, 1) := by decide +kernel
theorem dX2_partAt_52 : decode cX2_partAt 52 = .ok (.isub, 1) := by decide +kernel
theorem dX2_partAt_53 : decode cX2_partAt 53 = .ok (.istore 5, 2) := by decide +kernel
theorem dX2_partAt_55 : decode cX2_partAt 55 = .ok (.iinc 6 (-1), 3) := by decide +kernel
theorem dX2_partAt_58 : decode cX2_partAt 58 = .ok (.goto (-43), 3) := by decide +kernel
theorem dX2_partAt_61 : decode cX2_partAt 61 = .ok (.bipush (-5), 2) := by decide +kernel
theorem dX2_partAt_63 : decode cX2_partAt 63 = .ok (.ireturn, 1) := by decide +kernel
set_option maxRecDepth 20000 in
theorem ggX2_countNeeds_X1_needOf : GoodIn wsX2_countNeeds wsX1_needOf := goodIn_r _ [6, 7, 8, 9, 10, 11, 12, 13, 5, 14, 15, 16, 17, 18, 19, 20, 21, 22, 23, 25, 26] (by decide +kernel) (by decide +kernel)
set_option maxRecDepth 20000 in
theorem gX2_countNeeds_X1_needOf : GoodIn wsX2_countNeeds (wsV RX2 23 RX1 yX1_needOf wsX1_needOf) := goodIn_app (goodIn_of _ (by decide +kernel)) ggX2_countNeeds_X1_needOf
theorem dX2_countNeeds_0 : decode cX2_countNeeds 0 = .ok (.iconst 0, 1) := by decide +kernel
theorem dX2_countNeeds_1 : decode cX2_countNeeds 1 = .ok (.istore 4, 2) := by decide +kernel
theorem dX2_countNeeds_3 : decode cX2_countNeeds 3 = .ok (.iload 4, 2) := by decide +kernel
theorem dX2_countNeeds_5 : decode cX2_countNeeds 5 = .ok (.bipush 99, 2) := by decide +kernel
theorem dX2_countNeeds_7 : decode cX2_countNeeds 7 = .ok (.if_icmp .gt 17, 3) := by decide +kernel
theorem dX2_countNeeds_10 : decode cX2_countNeeds 10 = .ok (.aload_n 0, 1) := by decide +kernel
theorem dX2_countNeeds_11 : decode cX2_countNeeds 11 = .ok (.getfield 9, 3) := by decide +kernel
theorem dX2_countNeeds_14 : decode cX2_countNeeds 14 = .ok (.iload 4, 2) := by decide +kernel
theorem dX2_countNeeds_16 : decode cX2_countNeeds 16 = .ok (.iconst 0, 1) := by decide +kernel
theorem dX2_countNeeds_17 : decode cX2_countNeeds 17 = .ok (.iastore, 1) := by decide +kernel
theorem dX2_countNeeds_18 : decode cX2_countNeeds 18 = .ok (.iinc 4 1, 3) := by decide +kernel
theorem dX2_countNeeds_21 : decode cX2_countNeeds 21 = .ok (.goto (-18), 3) := by decide +kernel
theorem dX2_countNeeds_24 : decode cX2_countNeeds 24 = .ok (.iload_n 2, 1) := by decide +kernel
theorem dX2_countNeeds_25 : decode cX2_countNeeds 25 = .ok (.istore 4, 2) := by decide +kernel
theorem dX2_countNeeds_27 : decode cX2_countNeeds 27 = .ok (.iload 4, 2) := by decide +kernel
theorem dX2_countNeeds_29 : decode cX2_countNeeds 29 = .ok (.iload_n 3, 1) := by decide +kernel
theorem dX2_countNeeds_30 : decode cX2_countNeeds 30 = .ok (.if_icmp .ge 40, 3) := by decide +kernel
theorem dX2_countNeeds_33 : decode cX2_countNeeds 33 = .ok (.aload_n 1, 1) := by decide +kernel
theorem dX2_countNeeds_34 : decode cX2_countNeeds 34 = .ok (.iload 4, 2) := by decide +kernel
theorem dX2_countNeeds_36 : decode cX2_countNeeds 36 = .ok (.invokevirtual 23, 3) := by decide +kernel
theorem dX2_countNeeds_39 : decode cX2_countNeeds 39 = .ok (.istore 5, 2) := by decide +kernel
theorem dX2_countNeeds_41 : decode cX2_countNeeds 41 = .ok (.iload 5, 2) := by decide +kernel
theorem dX2_countNeeds_43 : decode cX2_countNeeds 43 = .ok (.ifCond .lt 21, 3) := by decide +kernel
theorem dX2_countNeeds_46 : decode cX2_countNeeds 46 = .ok (.iload 5, 2) := by decide +kernel
theorem dX2_countNeeds_48 : decode cX2_countNeeds 48 = .ok (.bipush 99, 2) := by decide +kernel
theorem dX2_countNeeds_50 : decode cX2_countNeeds 50 = .ok (.if_icmp .gt 14, 3) := by decide +kernel
theorem dX2_countNeeds_53 : decode cX2_countNeeds 53 = .ok (.aload_n 0, 1) := by decide +kernel
theorem dX2_countNeeds_54 : decode cX2_countNeeds 54 = .ok (.getfield 9, 3) := by decide +kernel
theorem dX2_countNeeds_57 : decode cX2_countNeeds 57 = .ok (.iload 5, 2) := by decide +kernel
theorem dX2_countNeeds_59 : decode cX2_countNeeds 59 = .ok (.dup2, 1) := by decide +kernel
theorem dX2_countNeeds_60 : decode cX2_countNeeds 60 = .ok (.iaload, 1) := by decide +kernel
theorem dX2_countNeeds_61 : decode cX2_countNeeds 61 = .ok (.iconst 1, 1) := by decide +kernel
theorem dX2_countNeeds_62 : decode cX2_countNeeds 62 = .ok (.iadd, 1) := by decide +kernel
theorem dX2_countNeeds_63 : decode cX2_countNeeds 63 = .ok (.iastore, 1) := by decide +kernel
theorem dX2_countNeeds_64 : decode cX2_countNeeds 64 = .ok (.iinc 4 1, 3) := by decide +kernel
theorem dX2_countNeeds_67 : decode cX2_countNeeds 67 = .ok (.goto (-40), 3) := by decide +kernel
theorem dX2_countNeeds_70 : decode cX2_countNeeds 70 = .ok (.return_, 1) := by decide +kernel
set_option maxRecDepth 20000 in
theorem ggX2_partWithNeed_X1_needOf : GoodIn wsX2_partWithNeed wsX1_needOf := goodIn_r _ [5, 6, 7, 8, 9, 10, 11, 12, 4, 13, 14, 15, 16, 17, 18, 19, 20, 21, 22, 23, 24] (by decide +kernel) (by decide +kernel)
set_option maxRecDepth 20000 in
theorem gX2_partWithNeed_X1_needOf : GoodIn wsX2_partWithNeed (wsV RX2 23 RX1 yX1_needOf wsX1_needOf) := goodIn_app (goodIn_of _ (by decide +kernel)) ggX2_partWithNeed_X1_needOf
theorem dX2_partWithNeed_0 : decode cX2_partWithNeed 0 = .ok (.iload 4, 2) := by decide +kernel
theorem dX2_partWithNeed_2 : decode cX2_partWithNeed 2 = .ok (.istore 5, 2) := by decide +kernel
theorem dX2_partWithNeed_4 : decode cX2_partWithNeed 4 = .ok (.iload_n 1, 1) := by decide +kernel
theorem dX2_partWithNeed_5 : decode cX2_partWithNeed 5 = .ok (.istore 6, 2) := by decide +kernel
theorem dX2_partWithNeed_7 : decode cX2_partWithNeed 7 = .ok (.iload 6, 2) := by decide +kernel
theorem dX2_partWithNeed_9 : decode cX2_partWithNeed 9 = .ok (.iload_n 2, 1) := by decide +kernel
theorem dX2_partWithNeed_10 : decode cX2_partWithNeed 10 = .ok (.if_icmp .ge 30, 3) := by decide +kernel
theorem dX2_partWithNeed_13 : decode cX2_partWithNeed 13 = .ok (.aload_n 0, 1) := by decide +kernel
theorem dX2_partWithNeed_14 : decode cX2_partWithNeed 14 = .ok (.iload 6, 2) := by decide +kernel
theorem dX2_partWithNeed_16 : decode cX2_partWithNeed 16 = .ok (.invokevirtual 23, 3) := by decide +kernel
theorem dX2_partWithNeed_19 : decode cX2_partWithNeed 19 = .ok (.iload_n 3, 1) := by decide +kernel
theorem dX2_partWithNeed_20 : decode cX2_partWithNeed 20 = .ok (.if_icmp .ne 14, 3) := by decide +kernel
theorem dX2_partWithNeed_23 : decode cX2_partWithNeed 23 = .ok (.iload 5, 2) := by decide +kernel
theorem dX2_partWithNeed_25 : decode cX2_partWithNeed 25 = .ok (.ifCond .ne 6, 3) := by decide +kernel
theorem dX2_partWithNeed_28 : decode cX2_partWithNeed 28 = .ok (.iload 6, 2) := by decide +kernel
theorem dX2_partWithNeed_30 : decode cX2_partWithNeed 30 = .ok (.ireturn, 1) := by decide +kernel
theorem dX2_partWithNeed_31 : decode cX2_partWithNeed 31 = .ok (.iinc 5 (-1), 3) := by decide +kernel
theorem dX2_partWithNeed_34 : decode cX2_partWithNeed 34 = .ok (.iinc 6 1, 3) := by decide +kernel
theorem dX2_partWithNeed_37 : decode cX2_partWithNeed 37 = .ok (.goto (-30), 3) := by decide +kernel
theorem dX2_partWithNeed_40 : decode cX2_partWithNeed 40 = .ok (.bipush (-5), 2) := by decide +kernel
theorem dX2_partWithNeed_42 : decode cX2_partWithNeed 42 = .ok (.ireturn, 1) := by decide +kernel
theorem dX3_init_0 : decode cX3_init 0 = .ok (.aload_n 0, 1) := by decide +kernel
theorem dX3_init_1 : decode cX3_init 1 = .ok (.invokespecial 3, 3) := by decide +kernel
theorem dX3_init_4 : decode cX3_init 4 = .ok (.aload_n 0, 1) := by decide +kernel
theorem dX3_init_5 : decode cX3_init 5 = .ok (.bipush 10, 2) := by decide +kernel
theorem dX3_init_7 : decode cX3_init 7 = .ok (.newarray .int, 2) := by decide +kernel
theorem dX3_init_9 : decode cX3_init 9 = .ok (.putfield 9, 3) := by decide +kernel
theorem dX3_init_12 : decode cX3_init 12 = .ok (.aload_n 0, 1) := by decide +kernel
theorem dX3_init_13 : decode cX3_init 13 = .ok (.bipush 10, 2) := by decide +kernel
theorem dX3_init_15 : decode cX3_init 15 = .ok (.newarray .int, 2) := by decide +kernel
theorem dX3_init_17 : decode cX3_init 17 = .ok (.putfield 15, 3) := by decide +kernel
theorem dX3_init_20 : decode cX3_init 20 = .ok (.aload_n 0, 1) := by decide +kernel
theorem dX3_init_21 : decode cX3_init 21 = .ok (.sipush 702, 3) := by decide +kernel
theorem dX3_init_24 : decode cX3_init 24 = .ok (.newarray .boolean, 2) := by decide +kernel
theorem dX3_init_26 : decode cX3_init 26 = .ok (.putfield 18, 3) := by decide +kernel
theorem dX3_init_29 : decode cX3_init 29 = .ok (.aload_n 0, 1) := by decide +kernel
theorem dX3_init_30 : decode cX3_init 30 = .ok (.bipush 20, 2) := by decide +kernel
theorem dX3_init_32 : decode cX3_init 32 = .ok (.newarray .boolean, 2) := by decide +kernel
theorem dX3_init_34 : decode cX3_init 34 = .ok (.putfield 22, 3) := by decide +kernel
theorem dX3_init_37 : decode cX3_init 37 = .ok (.aload_n 0, 1) := by decide +kernel
theorem dX3_init_38 : decode cX3_init 38 = .ok (.iconst 0, 1) := by decide +kernel
theorem dX3_init_39 : decode cX3_init 39 = .ok (.putfield 25, 3) := by decide +kernel
theorem dX3_init_42 : decode cX3_init 42 = .ok (.return_, 1) := by decide +kernel
theorem dX3_clear_0 : decode cX3_clear 0 = .ok (.iconst 0, 1) := by decide +kernel
theorem dX3_clear_1 : decode cX3_clear 1 = .ok (.istore_n 1, 1) := by decide +kernel
theorem dX3_clear_2 : decode cX3_clear 2 = .ok (.iload_n 1, 1) := by decide +kernel
theorem dX3_clear_3 : decode cX3_clear 3 = .ok (.sipush 702, 3) := by decide +kernel
theorem dX3_clear_6 : decode cX3_clear 6 = .ok (.if_icmp .ge 16, 3) := by decide +kernel
theorem dX3_clear_9 : decode cX3_clear 9 = .ok (.aload_n 0, 1) := by decide +kernel
theorem dX3_clear_10 : decode cX3_clear 10 = .ok (.getfield 18, 3) := by decide +kernel
theorem dX3_clear_13 : decode cX3_clear 13 = .ok (.iload_n 1, 1) := by decide +kernel
theorem dX3_clear_14 : decode cX3_clear 14 = .ok (.iconst 0, 1) := by decide +kernel
theorem dX3_clear_15 : decode cX3_clear 15 = .ok (.bastore, 1) := by decide +kernel
theorem dX3_clear_16 : decode cX3_clear 16 = .ok (.iinc 1 1, 3) := by decide +kernel
theorem dX3_clear_19 : decode cX3_clear 19 = .ok (.goto (-17), 3) := by decide +kernel
theorem dX3_clear_22 : decode cX3_clear 22 = .ok (.iconst 0, 1) := by decide +kernel
theorem dX3_clear_23 : decode cX3_clear 23 = .ok (.istore_n 1, 1) := by decide +kernel
theorem dX3_clear_24 : decode cX3_clear 24 = .ok (.iload_n 1, 1) := by decide +kernel
theorem dX3_clear_25 : decode cX3_clear 25 = .ok (.bipush 20, 2) := by decide +kernel
theorem dX3_clear_27 : decode cX3_clear 27 = .ok (.if_icmp .ge 16, 3) := by decide +kernel
theorem dX3_clear_30 : decode cX3_clear 30 = .ok (.aload_n 0, 1) := by decide +kernel
theorem dX3_clear_31 : decode cX3_clear 31 = .ok (.getfield 22, 3) := by decide +kernel
theorem dX3_clear_34 : decode cX3_clear 34 = .ok (.iload_n 1, 1) := by decide +kernel
theorem dX3_clear_35 : decode cX3_clear 35 = .ok (.iconst 0, 1) := by decide +kernel
theorem dX3_clear_36 : decode cX3_clear 36 = .ok (.bastore, 1) := by decide +kernel
theorem dX3_clear_37 : decode cX3_clear 37 = .ok (.iinc 1 1, 3) := by decide +kernel
theorem dX3_clear_40 : decode cX3_clear 40 = .ok (.goto (-16), 3) := by decide +kernel
theorem dX3_clear_43 : decode cX3_clear 43 = .ok (.aload_n 0, 1) := by decide +kernel
theorem dX3_clear_44 : decode cX3_clear 44 = .ok (.iconst 0, 1) := by decide +kernel
theorem dX3_clear_45 : decode cX3_clear 45 = .ok (.putfield 25, 3) := by decide +kernel
theorem dX3_clear_48 : decode cX3_clear 48 = .ok (.return_, 1) := by decide +kernel
set_option maxRecDepth 20000 in
theorem ggX3_choose_X3_clear : GoodIn wsX3_choose wsX3_clear := goodIn_r _ [5, 6, 7, 8, 49, 50, 51, 52, 53] (by decide +kernel) (by decide +kernel)
set_option maxRecDepth 20000 in
theorem gX3_choose_X3_clear : GoodIn wsX3_choose (wsV RX3 29 RX3 yX3_clear wsX3_clear) := goodIn_app (goodIn_of _ (by decide +kernel)) ggX3_choose_X3_clear
set_option maxRecDepth 20000 in
theorem ggX3_choose_X3_chooseLine : GoodIn wsX3_choose wsX3_chooseLine := goodIn_r _ [12, 7, 8, 13, 14, 15, 4, 16, 6, 17, 18, 19, 20, 21, 22, 23, 24, 25, 26, 27, 28, 29, 30, 31, 32, 33, 34, 35, 36, 37, 38, 39, 40, 41, 42, 43, 44, 45, 46, 47, 48, 54, 55, 56, 57, 58, 59, 60, 61, 62, 49, 50, 51, 52, 53, 63, 64, 65, 66, 67, 68] (by decide +kernel) (by decide +kernel)
set_option maxRecDepth 20000 in
theorem gX3_choose_X3_chooseLine : GoodIn wsX3_choose (wsV RX3 32 RX3 yX3_chooseLine wsX3_chooseLine) := goodIn_app (goodIn_of _ (by decide +kernel)) ggX3_choose_X3_chooseLine
theorem dX3_choose_0 : decode cX3_choose 0 = .ok (.aload_n 0, 1) := by decide +kernel
theorem dX3_choose_1 : decode cX3_choose 1 = .ok (.invokevirtual 29, 3) := by decide +kernel
theorem dX3_choose_4 : decode cX3_choose 4 = .ok (.iconst 1, 1) := by decide +kernel
theorem dX3_choose_5 : decode cX3_choose 5 = .ok (.istore_n 3, 1) := by decide +kernel
theorem dX3_choose_6 : decode cX3_choose 6 = .ok (.iconst 0, 1) := by decide +kernel
theorem dX3_choose_7 : decode cX3_choose 7 = .ok (.istore 4, 2) := by decide +kernel
theorem dX3_choose_9 : decode cX3_choose 9 = .ok (.iload 4, 2) := by decide +kernel
theorem dX3_choose_11 : decode cX3_choose 11 = .ok (.iload_n 2, 1) := by decide +kernel
theorem dX3_choose_12 : decode cX3_choose 12 = .ok (.if_icmp .ge 19, 3) := by decide +kernel
theorem dX3_choose_15 : decode cX3_choose 15 = .ok (.iload_n 3, 1) := by decide +kernel
theorem dX3_choose_16 : decode cX3_choose 16 = .ok (.ifCond .eq 15, 3) := by decide +kernel
theorem dX3_choose_19 : decode cX3_choose 19 = .ok (.aload_n 0, 1) := by decide +kernel
theorem dX3_choose_20 : decode cX3_choose 20 = .ok (.aload_n 1, 1) := by decide +kernel
theorem dX3_choose_21 : decode cX3_choose 21 = .ok (.invokevirtual 32, 3) := by decide +kernel
theorem dX3_choose_24 : decode cX3_choose 24 = .ok (.istore_n 3, 1) := by decide +kernel
theorem dX3_choose_25 : decode cX3_choose 25 = .ok (.iinc 4 1, 3) := by decide +kernel
theorem dX3_choose_28 : decode cX3_choose 28 = .ok (.goto (-19), 3) := by decide +kernel
theorem dX3_choose_31 : decode cX3_choose 31 = .ok (.return_, 1) := by decide +kernel
set_option maxRecDepth 20000 in
theorem ggX3_chooseLine_X3_gainOf : GoodIn wsX3_chooseLine wsX3_gainOf := goodIn_r _ [7, 8, 9, 10, 11, 12, 13, 14, 15, 16, 17, 18, 19, 20, 21, 22, 23, 24, 25, 26, 27, 28, 29, 30, 31, 32, 33, 34, 55, 56, 57, 58, 41, 42, 43, 44, 45, 46, 47, 50, 51, 52, 53, 54, 59, 60] (by decide +kernel) (by decide +kernel)
set_option maxRecDepth 20000 in
theorem gX3_chooseLine_X3_gainOf : GoodIn wsX3_chooseLine (wsV RX3 47 RX3 yX3_gainOf wsX3_gainOf) := goodIn_app (goodIn_of _ (by decide +kernel)) ggX3_chooseLine_X3_gainOf
set_option maxRecDepth 20000 in
theorem ggX3_chooseLine_X3_addLine : GoodIn wsX3_chooseLine wsX3_addLine := goodIn_r _ [38, 39, 2, 40, 1, 8, 19, 20, 21, 50, 51, 52, 53, 54, 55, 56, 57, 58] (by decide +kernel) (by decide +kernel)
set_option maxRecDepth 20000 in
theorem gX3_chooseLine_X3_addLine : GoodIn wsX3_chooseLine (wsV RX3 56 RX3 yX3_addLine wsX3_addLine) := goodIn_app (goodIn_of _ (by decide +kernel)) ggX3_chooseLine_X3_addLine
theorem dX3_chooseLine_0 : decode cX3_chooseLine 0 = .ok (.bipush (-5), 2) := by decide +kernel
theorem dX3_chooseLine_2 : decode cX3_chooseLine 2 = .ok (.istore_n 2, 1) := by decide +kernel
theorem dX3_chooseLine_3 : decode cX3_chooseLine 3 = .ok (.iconst 0, 1) := by decide +kernel
theorem dX3_chooseLine_4 : decode cX3_chooseLine 4 = .ok (.istore_n 3, 1) := by decide +kernel
theorem dX3_chooseLine_5 : decode cX3_chooseLine 5 = .ok (.iconst 0, 1) := by decide +kernel
theorem dX3_chooseLine_6 : decode cX3_chooseLine 6 = .ok (.istore 4, 2) := by decide +kernel
theorem dX3_chooseLine_8 : decode cX3_chooseLine 8 = .ok (.iconst 0, 1) := by decide +kernel
theorem dX3_chooseLine_9 : decode cX3_chooseLine 9 = .ok (.istore 5, 2) := by decide +kernel
theorem dX3_chooseLine_11 : decode cX3_chooseLine 11 = .ok (.iload 5, 2) := by decide +kernel
theorem dX3_chooseLine_13 : decode cX3_chooseLine 13 = .ok (.aload_n 1, 1) := by decide +kernel
theorem dX3_chooseLine_14 : decode cX3_chooseLine 14 = .ok (.getfield 36, 3) := by decide +kernel
theorem dX3_chooseLine_17 : decode cX3_chooseLine 17 = .ok (.getfield 41, 3) := by decide +kernel
theorem dX3_chooseLine_20 : decode cX3_chooseLine 20 = .ok (.if_icmp .ge 78, 3) := by decide +kernel
theorem dX3_chooseLine_23 : decode cX3_chooseLine 23 = .ok (.aload_n 0, 1) := by decide +kernel
theorem dX3_chooseLine_24 : decode cX3_chooseLine 24 = .ok (.getfield 22, 3) := by decide +kernel
theorem dX3_chooseLine_27 : decode cX3_chooseLine 27 = .ok (.iload 5, 2) := by decide +kernel
theorem dX3_chooseLine_29 : decode cX3_chooseLine 29 = .ok (.baload, 1) := by decide +kernel
theorem dX3_chooseLine_30 : decode cX3_chooseLine 30 = .ok (.ifCond .eq 6, 3) := by decide +kernel
theorem dX3_chooseLine_33 : decode cX3_chooseLine 33 = .ok (.goto 59, 3) := by decide +kernel
theorem dX3_chooseLine_36 : decode cX3_chooseLine 36 = .ok (.aload_n 1, 1) := by decide +kernel
theorem dX3_chooseLine_37 : decode cX3_chooseLine 37 = .ok (.getfield 36, 3) := by decide +kernel
theorem dX3_chooseLine_40 : decode cX3_chooseLine 40 = .ok (.getfield 44, 3) := by decide +kernel
theorem dX3_chooseLine_43 : decode cX3_chooseLine 43 = .ok (.iload 5, 2) := by decide +kernel
theorem dX3_chooseLine_45 : decode cX3_chooseLine 45 = .ok (.aaload, 1) := by decide +kernel
theorem dX3_chooseLine_46 : decode cX3_chooseLine 46 = .ok (.astore 6, 2) := by decide +kernel
theorem dX3_chooseLine_48 : decode cX3_chooseLine 48 = .ok (.aload_n 0, 1) := by decide +kernel
theorem dX3_chooseLine_49 : decode cX3_chooseLine 49 = .ok (.aload 6, 2) := by decide +kernel
theorem dX3_chooseLine_51 : decode cX3_chooseLine 51 = .ok (.aload_n 1, 1) := by decide +kernel
theorem dX3_chooseLine_52 : decode cX3_chooseLine 52 = .ok (.invokevirtual 47, 3) := by decide +kernel
theorem dX3_chooseLine_55 : decode cX3_chooseLine 55 = .ok (.istore 7, 2) := by decide +kernel
theorem dX3_chooseLine_57 : decode cX3_chooseLine 57 = .ok (.iload 7, 2) := by decide +kernel
theorem dX3_chooseLine_59 : decode cX3_chooseLine 59 = .ok (.iload_n 3, 1) := by decide +kernel
theorem dX3_chooseLine_60 : decode cX3_chooseLine 60 = .ok (.if_icmp .gt 19, 3) := by decide +kernel
theorem dX3_chooseLine_63 : decode cX3_chooseLine 63 = .ok (.iload 7, 2) := by decide +kernel
theorem dX3_chooseLine_65 : decode cX3_chooseLine 65 = .ok (.iload_n 3, 1) := by decide +kernel
theorem dX3_chooseLine_66 : decode cX3_chooseLine 66 = .ok (.if_icmp .ne 26, 3) := by decide +kernel
theorem dX3_chooseLine_69 : decode cX3_chooseLine 69 = .ok (.aload 6, 2) := by decide +kernel
theorem dX3_chooseLine_71 : decode cX3_chooseLine 71 = .ok (.getfield 51, 3) := by decide +kernel
theorem dX3_chooseLine_74 : decode cX3_chooseLine 74 = .ok (.iload 4, 2) := by decide +kernel
theorem dX3_chooseLine_76 : decode cX3_chooseLine 76 = .ok (.if_icmp .ge 16, 3) := by decide +kernel
theorem dX3_chooseLine_79 : decode cX3_chooseLine 79 = .ok (.iload 5, 2) := by decide +kernel
theorem dX3_chooseLine_81 : decode cX3_chooseLine 81 = .ok (.istore_n 2, 1) := by decide +kernel
theorem dX3_chooseLine_82 : decode cX3_chooseLine 82 = .ok (.iload 7, 2) := by decide +kernel
theorem dX3_chooseLine_84 : decode cX3_chooseLine 84 = .ok (.istore_n 3, 1) := by decide +kernel
theorem dX3_chooseLine_85 : decode cX3_chooseLine 85 = .ok (.aload 6, 2) := by decide +kernel
theorem dX3_chooseLine_87 : decode cX3_chooseLine 87 = .ok (.getfield 51, 3) := by decide +kernel
theorem dX3_chooseLine_90 : decode cX3_chooseLine 90 = .ok (.istore 4, 2) := by decide +kernel
theorem dX3_chooseLine_92 : decode cX3_chooseLine 92 = .ok (.iinc 5 1, 3) := by decide +kernel
theorem dX3_chooseLine_95 : decode cX3_chooseLine 95 = .ok (.goto (-84), 3) := by decide +kernel
theorem dX3_chooseLine_98 : decode cX3_chooseLine 98 = .ok (.iload_n 2, 1) := by decide +kernel
theorem dX3_chooseLine_99 : decode cX3_chooseLine 99 = .ok (.bipush (-5), 2) := by decide +kernel
theorem dX3_chooseLine_101 : decode cX3_chooseLine 101 = .ok (.if_icmp .eq 12, 3) := by decide +kernel
theorem dX3_chooseLine_104 : decode cX3_chooseLine 104 = .ok (.aload_n 0, 1) := by decide +kernel
theorem dX3_chooseLine_105 : decode cX3_chooseLine 105 = .ok (.getfield 25, 3) := by decide +kernel
theorem dX3_chooseLine_108 : decode cX3_chooseLine 108 = .ok (.bipush 10, 2) := by decide +kernel
theorem dX3_chooseLine_110 : decode cX3_chooseLine 110 = .ok (.if_icmp .lt 5, 3) := by decide +kernel
theorem dX3_chooseLine_113 : decode cX3_chooseLine 113 = .ok (.iconst 0, 1) := by decide +kernel
theorem dX3_chooseLine_114 : decode cX3_chooseLine 114 = .ok (.ireturn, 1) := by decide +kernel
theorem dX3_chooseLine_115 : decode cX3_chooseLine 115 = .ok (.aload_n 0, 1) := by decide +kernel
theorem dX3_chooseLine_116 : decode cX3_chooseLine 116 = .ok (.iload_n 2, 1) := by decide +kernel
theorem dX3_chooseLine_117 : decode cX3_chooseLine 117 = .ok (.iload_n 3, 1) := by decide +kernel
theorem dX3_chooseLine_118 : decode cX3_chooseLine 118 = .ok (.aload_n 1, 1) := by decide +kernel
theorem dX3_chooseLine_119 : decode cX3_chooseLine 119 = .ok (.getfield 36, 3) := by decide +kernel
theorem dX3_chooseLine_122 : decode cX3_chooseLine 122 = .ok (.getfield 44, 3) := by decide +kernel
theorem dX3_chooseLine_125 : decode cX3_chooseLine 125 = .ok (.iload_n 2, 1) := by decide +kernel
theorem dX3_chooseLine_126 : decode cX3_chooseLine 126 = .ok (.aaload, 1) := by decide +kernel
theorem dX3_chooseLine_127 : decode cX3_chooseLine 127 = .ok (.invokevirtual 56, 3) := by decide +kernel
theorem dX3_chooseLine_130 : decode cX3_chooseLine 130 = .ok (.iconst 1, 1) := by decide +kernel
theorem dX3_chooseLine_131 : decode cX3_chooseLine 131 = .ok (.ireturn, 1) := by decide +kernel
set_option maxRecDepth 20000 in
theorem ggX3_addLine_X8_isPart : GoodIn wsX3_addLine wsX8_isPart := goodIn_r _ [8] (by decide +kernel) (by decide +kernel)
set_option maxRecDepth 20000 in
theorem gX3_addLine_X8_isPart_n66 : GoodIn wsX3_addLine (wsX8_isPart) := ggX3_addLine_X8_isPart
theorem dX3_addLine_0 : decode cX3_addLine 0 = .ok (.aload_n 0, 1) := by decide +kernel
theorem dX3_addLine_1 : decode cX3_addLine 1 = .ok (.getfield 9, 3) := by decide +kernel
theorem dX3_addLine_4 : decode cX3_addLine 4 = .ok (.aload_n 0, 1) := by decide +kernel
theorem dX3_addLine_5 : decode cX3_addLine 5 = .ok (.getfield 25, 3) := by decide +kernel
theorem dX3_addLine_8 : decode cX3_addLine 8 = .ok (.iload_n 1, 1) := by decide +kernel
theorem dX3_addLine_9 : decode cX3_addLine 9 = .ok (.iastore, 1) := by decide +kernel
theorem dX3_addLine_10 : decode cX3_addLine 10 = .ok (.aload_n 0, 1) := by decide +kernel
theorem dX3_addLine_11 : decode cX3_addLine 11 = .ok (.getfield 15, 3) := by decide +kernel
theorem dX3_addLine_14 : decode cX3_addLine 14 = .ok (.aload_n 0, 1) := by decide +kernel
theorem dX3_addLine_15 : decode cX3_addLine 15 = .ok (.getfield 25, 3) := by decide +kernel
theorem dX3_addLine_18 : decode cX3_addLine 18 = .ok (.iload_n 2, 1) := by decide +kernel
theorem dX3_addLine_19 : decode cX3_addLine 19 = .ok (.iastore, 1) := by decide +kernel
theorem dX3_addLine_20 : decode cX3_addLine 20 = .ok (.aload_n 0, 1) := by decide +kernel
theorem dX3_addLine_21 : decode cX3_addLine 21 = .ok (.dup, 1) := by decide +kernel
theorem dX3_addLine_22 : decode cX3_addLine 22 = .ok (.getfield 25, 3) := by decide +kernel
theorem dX3_addLine_25 : decode cX3_addLine 25 = .ok (.iconst 1, 1) := by decide +kernel
theorem dX3_addLine_26 : decode cX3_addLine 26 = .ok (.iadd, 1) := by decide +kernel
theorem dX3_addLine_27 : decode cX3_addLine 27 = .ok (.putfield 25, 3) := by decide +kernel
theorem dX3_addLine_30 : decode cX3_addLine 30 = .ok (.aload_n 0, 1) := by decide +kernel
theorem dX3_addLine_31 : decode cX3_addLine 31 = .ok (.getfield 22, 3) := by decide +kernel
theorem dX3_addLine_34 : decode cX3_addLine 34 = .ok (.iload_n 1, 1) := by decide +kernel
theorem dX3_addLine_35 : decode cX3_addLine 35 = .ok (.iconst 1, 1) := by decide +kernel
theorem dX3_addLine_36 : decode cX3_addLine 36 = .ok (.bastore, 1) := by decide +kernel
theorem dX3_addLine_37 : decode cX3_addLine 37 = .ok (.iconst 0, 1) := by decide +kernel
theorem dX3_addLine_38 : decode cX3_addLine 38 = .ok (.istore 4, 2) := by decide +kernel
theorem dX3_addLine_40 : decode cX3_addLine 40 = .ok (.iload 4, 2) := by decide +kernel
theorem dX3_addLine_42 : decode cX3_addLine 42 = .ok (.aload_n 3, 1) := by decide +kernel
theorem dX3_addLine_43 : decode cX3_addLine 43 = .ok (.getfield 60, 3) := by decide +kernel
theorem dX3_addLine_46 : decode cX3_addLine 46 = .ok (.if_icmp .ge 35, 3) := by decide +kernel
theorem dX3_addLine_49 : decode cX3_addLine 49 = .ok (.aload_n 3, 1) := by decide +kernel
theorem dX3_addLine_50 : decode cX3_addLine 50 = .ok (.getfield 63, 3) := by decide +kernel
theorem dX3_addLine_53 : decode cX3_addLine 53 = .ok (.iload 4, 2) := by decide +kernel
theorem dX3_addLine_55 : decode cX3_addLine 55 = .ok (.iaload, 1) := by decide +kernel
theorem dX3_addLine_56 : decode cX3_addLine 56 = .ok (.invokestatic 66, 3) := by decide +kernel
theorem dX3_addLine_59 : decode cX3_addLine 59 = .ok (.ifCond .eq 16, 3) := by decide +kernel
theorem dX3_addLine_62 : decode cX3_addLine 62 = .ok (.aload_n 0, 1) := by decide +kernel
theorem dX3_addLine_63 : decode cX3_addLine 63 = .ok (.getfield 18, 3) := by decide +kernel
theorem dX3_addLine_66 : decode cX3_addLine 66 = .ok (.aload_n 3, 1) := by decide +kernel
theorem dX3_addLine_67 : decode cX3_addLine 67 = .ok (.getfield 63, 3) := by decide +kernel
theorem dX3_addLine_70 : decode cX3_addLine 70 = .ok (.iload 4, 2) := by decide +kernel
theorem dX3_addLine_72 : decode cX3_addLine 72 = .ok (.iaload, 1) := by decide +kernel
theorem dX3_addLine_73 : decode cX3_addLine 73 = .ok (.iconst 1, 1) := by decide +kernel
theorem dX3_addLine_74 : decode cX3_addLine 74 = .ok (.bastore, 1) := by decide +kernel
theorem dX3_addLine_75 : decode cX3_addLine 75 = .ok (.iinc 4 1, 3) := by decide +kernel
theorem dX3_addLine_78 : decode cX3_addLine 78 = .ok (.goto (-38), 3) := by decide +kernel
theorem dX3_addLine_81 : decode cX3_addLine 81 = .ok (.return_, 1) := by decide +kernel
set_option maxRecDepth 20000 in
theorem ggX3_gainOf_X1_isUntried : GoodIn wsX3_gainOf wsX1_isUntried := goodIn_r _ [6, 7, 8, 9, 5, 10, 11, 12, 13, 14, 44, 45] (by decide +kernel) (by decide +kernel)
set_option maxRecDepth 20000 in
theorem gX3_gainOf_X1_isUntried : GoodIn wsX3_gainOf (wsV RX3 74 RX1 yX1_isUntried wsX1_isUntried) := goodIn_app (goodIn_of _ (by decide +kernel)) ggX3_gainOf_X1_isUntried
set_option maxRecDepth 20000 in
theorem ggX3_gainOf_X8_isPart : GoodIn wsX3_gainOf wsX8_isPart := goodIn_r _ [14] (by decide +kernel) (by decide +kernel)
set_option maxRecDepth 20000 in
theorem gX3_gainOf_X8_isPart_n66 : GoodIn wsX3_gainOf (wsX8_isPart) := ggX3_gainOf_X8_isPart
set_option maxRecDepth 20000 in
theorem ggX3_gainOf_X1_needOf : GoodIn wsX3_gainOf wsX1_needOf := goodIn_r _ [18, 19, 20, 21, 22, 23, 24, 25, 5, 26, 27, 12, 13, 14, 7, 8, 9, 10, 11, 44, 45] (by decide +kernel) (by decide +kernel)
set_option maxRecDepth 20000 in
theorem gX3_gainOf_X1_needOf : GoodIn wsX3_gainOf (wsV RX3 82 RX1 yX1_needOf wsX1_needOf) := goodIn_app (goodIn_of _ (by decide +kernel)) ggX3_gainOf_X1_needOf
theorem dX3_gainOf_0 : decode cX3_gainOf 0 = .ok (.iconst 0, 1) := by decide +kernel
theorem dX3_gainOf_1 : decode cX3_gainOf 1 = .ok (.istore_n 3, 1) := by decide +kernel
theorem dX3_gainOf_2 : decode cX3_gainOf 2 = .ok (.iconst 0, 1) := by decide +kernel
theorem dX3_gainOf_3 : decode cX3_gainOf 3 = .ok (.istore 4, 2) := by decide +kernel
theorem dX3_gainOf_5 : decode cX3_gainOf 5 = .ok (.iload 4, 2) := by decide +kernel
theorem dX3_gainOf_7 : decode cX3_gainOf 7 = .ok (.aload_n 1, 1) := by decide +kernel
theorem dX3_gainOf_8 : decode cX3_gainOf 8 = .ok (.getfield 60, 3) := by decide +kernel
theorem dX3_gainOf_11 : decode cX3_gainOf 11 = .ok (.if_icmp .ge 87, 3) := by decide +kernel
theorem dX3_gainOf_14 : decode cX3_gainOf 14 = .ok (.aload_n 1, 1) := by decide +kernel
theorem dX3_gainOf_15 : decode cX3_gainOf 15 = .ok (.getfield 63, 3) := by decide +kernel
theorem dX3_gainOf_18 : decode cX3_gainOf 18 = .ok (.iload 4, 2) := by decide +kernel
theorem dX3_gainOf_20 : decode cX3_gainOf 20 = .ok (.iaload, 1) := by decide +kernel
theorem dX3_gainOf_21 : decode cX3_gainOf 21 = .ok (.istore 5, 2) := by decide +kernel
theorem dX3_gainOf_23 : decode cX3_gainOf 23 = .ok (.aload_n 2, 1) := by decide +kernel
theorem dX3_gainOf_24 : decode cX3_gainOf 24 = .ok (.getfield 70, 3) := by decide +kernel
theorem dX3_gainOf_27 : decode cX3_gainOf 27 = .ok (.iload 5, 2) := by decide +kernel
theorem dX3_gainOf_29 : decode cX3_gainOf 29 = .ok (.invokevirtual 74, 3) := by decide +kernel
theorem dX3_gainOf_32 : decode cX3_gainOf 32 = .ok (.ifCond .eq 13, 3) := by decide +kernel
theorem dX3_gainOf_35 : decode cX3_gainOf 35 = .ok (.iload_n 3, 1) := by decide +kernel
theorem dX3_gainOf_36 : decode cX3_gainOf 36 = .ok (.aload_n 2, 1) := by decide +kernel
theorem dX3_gainOf_37 : decode cX3_gainOf 37 = .ok (.getfield 79, 3) := by decide +kernel
theorem dX3_gainOf_40 : decode cX3_gainOf 40 = .ok (.iadd, 1) := by decide +kernel
theorem dX3_gainOf_41 : decode cX3_gainOf 41 = .ok (.istore_n 3, 1) := by decide +kernel
theorem dX3_gainOf_42 : decode cX3_gainOf 42 = .ok (.goto 50, 3) := by decide +kernel
theorem dX3_gainOf_45 : decode cX3_gainOf 45 = .ok (.iload 5, 2) := by decide +kernel
theorem dX3_gainOf_47 : decode cX3_gainOf 47 = .ok (.invokestatic 66, 3) := by decide +kernel
theorem dX3_gainOf_50 : decode cX3_gainOf 50 = .ok (.ifCond .eq 30, 3) := by decide +kernel
theorem dX3_gainOf_53 : decode cX3_gainOf 53 = .ok (.aload_n 0, 1) := by decide +kernel
theorem dX3_gainOf_54 : decode cX3_gainOf 54 = .ok (.getfield 18, 3) := by decide +kernel
theorem dX3_gainOf_57 : decode cX3_gainOf 57 = .ok (.iload 5, 2) := by decide +kernel
theorem dX3_gainOf_59 : decode cX3_gainOf 59 = .ok (.baload, 1) := by decide +kernel
theorem dX3_gainOf_60 : decode cX3_gainOf 60 = .ok (.ifCond .eq 20, 3) := by decide +kernel
theorem dX3_gainOf_63 : decode cX3_gainOf 63 = .ok (.iload_n 3, 1) := by decide +kernel
theorem dX3_gainOf_64 : decode cX3_gainOf 64 = .ok (.aload_n 2, 1) := by decide +kernel
theorem dX3_gainOf_65 : decode cX3_gainOf 65 = .ok (.getfield 70, 3) := by decide +kernel
theorem dX3_gainOf_68 : decode cX3_gainOf 68 = .ok (.iload 5, 2) := by decide +kernel
theorem dX3_gainOf_70 : decode cX3_gainOf 70 = .ok (.invokevirtual 82, 3) := by decide +kernel
theorem dX3_gainOf_73 : decode cX3_gainOf 73 = .ok (.iconst 2, 1) := by decide +kernel
theorem dX3_gainOf_74 : decode cX3_gainOf 74 = .ok (.idiv, 1) := by decide +kernel
theorem dX3_gainOf_75 : decode cX3_gainOf 75 = .ok (.iadd, 1) := by decide +kernel
theorem dX3_gainOf_76 : decode cX3_gainOf 76 = .ok (.istore_n 3, 1) := by decide +kernel
theorem dX3_gainOf_77 : decode cX3_gainOf 77 = .ok (.goto 15, 3) := by decide +kernel
theorem dX3_gainOf_80 : decode cX3_gainOf 80 = .ok (.iload_n 3, 1) := by decide +kernel
theorem dX3_gainOf_81 : decode cX3_gainOf 81 = .ok (.aload_n 2, 1) := by decide +kernel
theorem dX3_gainOf_82 : decode cX3_gainOf 82 = .ok (.getfield 70, 3) := by decide +kernel
theorem dX3_gainOf_85 : decode cX3_gainOf 85 = .ok (.iload 5, 2) := by decide +kernel
theorem dX3_gainOf_87 : decode cX3_gainOf 87 = .ok (.invokevirtual 82, 3) := by decide +kernel
theorem dX3_gainOf_90 : decode cX3_gainOf 90 = .ok (.iadd, 1) := by decide +kernel
theorem dX3_gainOf_91 : decode cX3_gainOf 91 = .ok (.istore_n 3, 1) := by decide +kernel
theorem dX3_gainOf_92 : decode cX3_gainOf 92 = .ok (.iinc 4 1, 3) := by decide +kernel
theorem dX3_gainOf_95 : decode cX3_gainOf 95 = .ok (.goto (-90), 3) := by decide +kernel
theorem dX3_gainOf_98 : decode cX3_gainOf 98 = .ok (.iload_n 3, 1) := by decide +kernel
theorem dX3_gainOf_99 : decode cX3_gainOf 99 = .ok (.ireturn, 1) := by decide +kernel
theorem dX3_coveredFrom_0 : decode cX3_coveredFrom 0 = .ok (.iconst 0, 1) := by decide +kernel
theorem dX3_coveredFrom_1 : decode cX3_coveredFrom 1 = .ok (.istore_n 3, 1) := by decide +kernel
theorem dX3_coveredFrom_2 : decode cX3_coveredFrom 2 = .ok (.iload_n 1, 1) := by decide +kernel
theorem dX3_coveredFrom_3 : decode cX3_coveredFrom 3 = .ok (.istore 4, 2) := by decide +kernel
theorem dX3_coveredFrom_5 : decode cX3_coveredFrom 5 = .ok (.iload 4, 2) := by decide +kernel
theorem dX3_coveredFrom_7 : decode cX3_coveredFrom 7 = .ok (.iload_n 2, 1) := by decide +kernel
theorem dX3_coveredFrom_8 : decode cX3_coveredFrom 8 = .ok (.if_icmp .ge 22, 3) := by decide +kernel
theorem dX3_coveredFrom_11 : decode cX3_coveredFrom 11 = .ok (.aload_n 0, 1) := by decide +kernel
theorem dX3_coveredFrom_12 : decode cX3_coveredFrom 12 = .ok (.getfield 18, 3) := by decide +kernel
theorem dX3_coveredFrom_15 : decode cX3_coveredFrom 15 = .ok (.iload 4, 2) := by decide +kernel
theorem dX3_coveredFrom_17 : decode cX3_coveredFrom 17 = .ok (.baload, 1) := by decide +kernel
theorem dX3_coveredFrom_18 : decode cX3_coveredFrom 18 = .ok (.ifCond .eq 6, 3) := by decide +kernel
theorem dX3_coveredFrom_21 : decode cX3_coveredFrom 21 = .ok (.iinc 3 1, 3) := by decide +kernel
theorem dX3_coveredFrom_24 : decode cX3_coveredFrom 24 = .ok (.iinc 4 1, 3) := by decide +kernel
theorem dX3_coveredFrom_27 : decode cX3_coveredFrom 27 = .ok (.goto (-22), 3) := by decide +kernel
theorem dX3_coveredFrom_30 : decode cX3_coveredFrom 30 = .ok (.iload_n 3, 1) := by decide +kernel
theorem dX3_coveredFrom_31 : decode cX3_coveredFrom 31 = .ok (.ireturn, 1) := by decide +kernel
set_option maxRecDepth 20000 in
theorem ggX3_needCovered_X1_needOf : GoodIn wsX3_needCovered wsX1_needOf := goodIn_r _ [6, 7, 8, 9, 10, 11, 12, 13, 5, 14, 15, 16, 17, 18, 19, 20, 21, 22, 23, 29, 30] (by decide +kernel) (by decide +kernel)
set_option maxRecDepth 20000 in
theorem gX3_needCovered_X1_needOf : GoodIn wsX3_needCovered (wsV RX3 82 RX1 yX1_needOf wsX1_needOf) := goodIn_app (goodIn_of _ (by decide +kernel)) ggX3_needCovered_X1_needOf
theorem dX3_needCovered_0 : decode cX3_needCovered 0 = .ok (.iconst 0, 1) := by decide +kernel
theorem dX3_needCovered_1 : decode cX3_needCovered 1 = .ok (.istore_n 2, 1) := by decide +kernel
theorem dX3_needCovered_2 : decode cX3_needCovered 2 = .ok (.iconst 0, 1) := by decide +kernel
theorem dX3_needCovered_3 : decode cX3_needCovered 3 = .ok (.istore_n 3, 1) := by decide +kernel
theorem dX3_needCovered_4 : decode cX3_needCovered 4 = .ok (.iload_n 3, 1) := by decide +kernel
theorem dX3_needCovered_5 : decode cX3_needCovered 5 = .ok (.sipush 702, 3) := by decide +kernel
theorem dX3_needCovered_8 : decode cX3_needCovered 8 = .ok (.if_icmp .ge 26, 3) := by decide +kernel
theorem dX3_needCovered_11 : decode cX3_needCovered 11 = .ok (.aload_n 0, 1) := by decide +kernel
theorem dX3_needCovered_12 : decode cX3_needCovered 12 = .ok (.getfield 18, 3) := by decide +kernel
theorem dX3_needCovered_15 : decode cX3_needCovered 15 = .ok (.iload_n 3, 1) := by decide +kernel
theorem dX3_needCovered_16 : decode cX3_needCovered 16 = .ok (.baload, 1) := by decide +kernel
theorem dX3_needCovered_17 : decode cX3_needCovered 17 = .ok (.ifCond .eq 11, 3) := by decide +kernel
theorem dX3_needCovered_20 : decode cX3_needCovered 20 = .ok (.iload_n 2, 1) := by decide +kernel
theorem dX3_needCovered_21 : decode cX3_needCovered 21 = .ok (.aload_n 1, 1) := by decide +kernel
theorem dX3_needCovered_22 : decode cX3_needCovered 22 = .ok (.iload_n 3, 1) := by decide +kernel
theorem dX3_needCovered_23 : decode cX3_needCovered 23 = .ok (.invokevirtual 82, 3) := by decide +kernel
theorem dX3_needCovered_26 : decode cX3_needCovered 26 = .ok (.iadd, 1) := by decide +kernel
theorem dX3_needCovered_27 : decode cX3_needCovered 27 = .ok (.istore_n 2, 1) := by decide +kernel
theorem dX3_needCovered_28 : decode cX3_needCovered 28 = .ok (.iinc 3 1, 3) := by decide +kernel
theorem dX3_needCovered_31 : decode cX3_needCovered 31 = .ok (.goto (-27), 3) := by decide +kernel
theorem dX3_needCovered_34 : decode cX3_needCovered 34 = .ok (.iload_n 2, 1) := by decide +kernel
theorem dX3_needCovered_35 : decode cX3_needCovered 35 = .ok (.ireturn, 1) := by decide +kernel
theorem dX3_sumOfGains_0 : decode cX3_sumOfGains 0 = .ok (.iconst 0, 1) := by decide +kernel
theorem dX3_sumOfGains_1 : decode cX3_sumOfGains 1 = .ok (.istore_n 1, 1) := by decide +kernel
theorem dX3_sumOfGains_2 : decode cX3_sumOfGains 2 = .ok (.iconst 0, 1) := by decide +kernel
theorem dX3_sumOfGains_3 : decode cX3_sumOfGains 3 = .ok (.istore_n 2, 1) := by decide +kernel
theorem dX3_sumOfGains_4 : decode cX3_sumOfGains 4 = .ok (.iload_n 2, 1) := by decide +kernel
theorem dX3_sumOfGains_5 : decode cX3_sumOfGains 5 = .ok (.aload_n 0, 1) := by decide +kernel
theorem dX3_sumOfGains_6 : decode cX3_sumOfGains 6 = .ok (.getfield 25, 3) := by decide +kernel
theorem dX3_sumOfGains_9 : decode cX3_sumOfGains 9 = .ok (.if_icmp .ge 18, 3) := by decide +kernel
theorem dX3_sumOfGains_12 : decode cX3_sumOfGains 12 = .ok (.iload_n 1, 1) := by decide +kernel
theorem dX3_sumOfGains_13 : decode cX3_sumOfGains 13 = .ok (.aload_n 0, 1) := by decide +kernel
theorem dX3_sumOfGains_14 : decode cX3_sumOfGains 14 = .ok (.getfield 15, 3) := by decide +kernel
theorem dX3_sumOfGains_17 : decode cX3_sumOfGains 17 = .ok (.iload_n 2, 1) := by decide +kernel
theorem dX3_sumOfGains_18 : decode cX3_sumOfGains 18 = .ok (.iaload, 1) := by decide +kernel
theorem dX3_sumOfGains_19 : decode cX3_sumOfGains 19 = .ok (.iadd, 1) := by decide +kernel
theorem dX3_sumOfGains_20 : decode cX3_sumOfGains 20 = .ok (.istore_n 1, 1) := by decide +kernel
theorem dX3_sumOfGains_21 : decode cX3_sumOfGains 21 = .ok (.iinc 2 1, 3) := by decide +kernel
theorem dX3_sumOfGains_24 : decode cX3_sumOfGains 24 = .ok (.goto (-20), 3) := by decide +kernel
theorem dX3_sumOfGains_27 : decode cX3_sumOfGains 27 = .ok (.iload_n 1, 1) := by decide +kernel
theorem dX3_sumOfGains_28 : decode cX3_sumOfGains 28 = .ok (.ireturn, 1) := by decide +kernel
set_option maxRecDepth 20000 in
theorem ggX4_init_X1_init : GoodIn wsX4_init wsX1_init := goodIn_r _ [19, 20, 2, 3, 21, 22, 23, 41, 42] (by decide +kernel) (by decide +kernel)
set_option maxRecDepth 20000 in
theorem gX4_init_X1_init : GoodIn wsX4_init (wsX1_init) := ggX4_init_X1_init
set_option maxRecDepth 20000 in
theorem ggX4_init_X7_init : GoodIn wsX4_init wsX7_init := goodIn_r _ [26, 27, 2, 3, 28, 29, 30, 31, 32, 33, 34, 35, 36, 21, 37, 38, 39, 40, 50, 51, 52, 53, 54, 55] (by decide +kernel) (by decide +kernel)
set_option maxRecDepth 20000 in
theorem gX4_init_X7_init : GoodIn wsX4_init (wsX7_init) := ggX4_init_X7_init
theorem dX4_init_0 : decode cX4_init 0 = .ok (.aload_n 0, 1) := by decide +kernel
theorem dX4_init_1 : decode cX4_init 1 = .ok (.invokespecial 3, 3) := by decide +kernel
theorem dX4_init_4 : decode cX4_init 4 = .ok (.aload_n 0, 1) := by decide +kernel
theorem dX4_init_5 : decode cX4_init 5 = .ok (.new 9, 3) := by decide +kernel
theorem dX4_init_8 : decode cX4_init 8 = .ok (.dup, 1) := by decide +kernel
theorem dX4_init_9 : decode cX4_init 9 = .ok (.invokespecial 11, 3) := by decide +kernel
theorem dX4_init_12 : decode cX4_init 12 = .ok (.putfield 12, 3) := by decide +kernel
theorem dX4_init_15 : decode cX4_init 15 = .ok (.aload_n 0, 1) := by decide +kernel
theorem dX4_init_16 : decode cX4_init 16 = .ok (.new 18, 3) := by decide +kernel
theorem dX4_init_19 : decode cX4_init 19 = .ok (.dup, 1) := by decide +kernel
theorem dX4_init_20 : decode cX4_init 20 = .ok (.invokespecial 20, 3) := by decide +kernel
theorem dX4_init_23 : decode cX4_init 23 = .ok (.putfield 21, 3) := by decide +kernel
theorem dX4_init_26 : decode cX4_init 26 = .ok (.aload_n 0, 1) := by decide +kernel
theorem dX4_init_27 : decode cX4_init 27 = .ok (.iconst 0, 1) := by decide +kernel
theorem dX4_init_28 : decode cX4_init 28 = .ok (.putfield 25, 3) := by decide +kernel
theorem dX4_init_31 : decode cX4_init 31 = .ok (.aload_n 0, 1) := by decide +kernel
theorem dX4_init_32 : decode cX4_init 32 = .ok (.iconst 5, 1) := by decide +kernel
theorem dX4_init_33 : decode cX4_init 33 = .ok (.putfield 29, 3) := by decide +kernel
theorem dX4_init_36 : decode cX4_init 36 = .ok (.aload_n 0, 1) := by decide +kernel
theorem dX4_init_37 : decode cX4_init 37 = .ok (.iconst 0, 1) := by decide +kernel
theorem dX4_init_38 : decode cX4_init 38 = .ok (.putfield 32, 3) := by decide +kernel
theorem dX4_init_41 : decode cX4_init 41 = .ok (.aload_n 0, 1) := by decide +kernel
theorem dX4_init_42 : decode cX4_init 42 = .ok (.iconst 0, 1) := by decide +kernel
theorem dX4_init_43 : decode cX4_init 43 = .ok (.putfield 35, 3) := by decide +kernel
theorem dX4_init_46 : decode cX4_init 46 = .ok (.aload_n 0, 1) := by decide +kernel
theorem dX4_init_47 : decode cX4_init 47 = .ok (.iconst 0, 1) := by decide +kernel
theorem dX4_init_48 : decode cX4_init 48 = .ok (.putfield 38, 3) := by decide +kernel
theorem dX4_init_51 : decode cX4_init 51 = .ok (.return_, 1) := by decide +kernel
set_option maxRecDepth 20000 in
theorem ggX4_practise_X7_at : GoodIn wsX4_practise wsX7_at := goodIn_r _ [9, 10, 11, 39, 40] (by decide +kernel) (by decide +kernel)
set_option maxRecDepth 20000 in
theorem gX4_practise_X7_at : GoodIn wsX4_practise (wsV RX4 49 RX7 yX7_at wsX7_at) := goodIn_app (goodIn_of _ (by decide +kernel)) ggX4_practise_X7_at
set_option maxRecDepth 20000 in
theorem ggX4_practise_X1_addTriesOf : GoodIn wsX4_practise wsX1_addTriesOf := goodIn_r _ [16, 17, 18, 19, 15, 20, 21, 22, 23, 24, 25, 26, 41, 42, 43, 44, 45, 46] (by decide +kernel) (by decide +kernel)
set_option maxRecDepth 20000 in
theorem gX4_practise_X1_addTriesOf : GoodIn wsX4_practise (wsV RX4 53 RX1 yX1_addTriesOf wsX1_addTriesOf) := goodIn_app (goodIn_of _ (by decide +kernel)) ggX4_practise_X1_addTriesOf
theorem dX4_practise_0 : decode cX4_practise 0 = .ok (.iconst 0, 1) := by decide +kernel
theorem dX4_practise_1 : decode cX4_practise 1 = .ok (.istore_n 2, 1) := by decide +kernel
theorem dX4_practise_2 : decode cX4_practise 2 = .ok (.iload_n 2, 1) := by decide +kernel
theorem dX4_practise_3 : decode cX4_practise 3 = .ok (.aload_n 1, 1) := by decide +kernel
theorem dX4_practise_4 : decode cX4_practise 4 = .ok (.getfield 41, 3) := by decide +kernel
theorem dX4_practise_7 : decode cX4_practise 7 = .ok (.if_icmp .ge 45, 3) := by decide +kernel
theorem dX4_practise_10 : decode cX4_practise 10 = .ok (.aload_n 0, 1) := by decide +kernel
theorem dX4_practise_11 : decode cX4_practise 11 = .ok (.getfield 21, 3) := by decide +kernel
theorem dX4_practise_14 : decode cX4_practise 14 = .ok (.aload_n 1, 1) := by decide +kernel
theorem dX4_practise_15 : decode cX4_practise 15 = .ok (.getfield 46, 3) := by decide +kernel
theorem dX4_practise_18 : decode cX4_practise 18 = .ok (.iload_n 2, 1) := by decide +kernel
theorem dX4_practise_19 : decode cX4_practise 19 = .ok (.iaload, 1) := by decide +kernel
theorem dX4_practise_20 : decode cX4_practise 20 = .ok (.invokevirtual 49, 3) := by decide +kernel
theorem dX4_practise_23 : decode cX4_practise 23 = .ok (.astore_n 3, 1) := by decide +kernel
theorem dX4_practise_24 : decode cX4_practise 24 = .ok (.aload_n 3, 1) := by decide +kernel
theorem dX4_practise_25 : decode cX4_practise 25 = .ok (.ifnull 21, 3) := by decide +kernel
theorem dX4_practise_28 : decode cX4_practise 28 = .ok (.aload_n 0, 1) := by decide +kernel
theorem dX4_practise_29 : decode cX4_practise 29 = .ok (.getfield 12, 3) := by decide +kernel
theorem dX4_practise_32 : decode cX4_practise 32 = .ok (.aload_n 3, 1) := by decide +kernel
theorem dX4_practise_33 : decode cX4_practise 33 = .ok (.invokevirtual 53, 3) := by decide +kernel
theorem dX4_practise_36 : decode cX4_practise 36 = .ok (.aload_n 0, 1) := by decide +kernel
theorem dX4_practise_37 : decode cX4_practise 37 = .ok (.dup, 1) := by decide +kernel
theorem dX4_practise_38 : decode cX4_practise 38 = .ok (.getfield 32, 3) := by decide +kernel
theorem dX4_practise_41 : decode cX4_practise 41 = .ok (.iconst 1, 1) := by decide +kernel
theorem dX4_practise_42 : decode cX4_practise 42 = .ok (.iadd, 1) := by decide +kernel
theorem dX4_practise_43 : decode cX4_practise 43 = .ok (.putfield 32, 3) := by decide +kernel
theorem dX4_practise_46 : decode cX4_practise 46 = .ok (.iinc 2 1, 3) := by decide +kernel
theorem dX4_practise_49 : decode cX4_practise 49 = .ok (.goto (-47), 3) := by decide +kernel
theorem dX4_practise_52 : decode cX4_practise 52 = .ok (.aload_n 0, 1) := by decide +kernel
theorem dX4_practise_53 : decode cX4_practise 53 = .ok (.dup, 1) := by decide +kernel
theorem dX4_practise_54 : decode cX4_practise 54 = .ok (.getfield 38, 3) := by decide +kernel
theorem dX4_practise_57 : decode cX4_practise 57 = .ok (.iconst 1, 1) := by decide +kernel
theorem dX4_practise_58 : decode cX4_practise 58 = .ok (.iadd, 1) := by decide +kernel
theorem dX4_practise_59 : decode cX4_practise 59 = .ok (.putfield 38, 3) := by decide +kernel
theorem dX4_practise_62 : decode cX4_practise 62 = .ok (.return_, 1) := by decide +kernel
set_option maxRecDepth 20000 in
theorem ggX4_greatestNeedOfWords_X1_greatestNeedOf : GoodIn wsX4_greatestNeedOfWords wsX1_greatestNeedOf := goodIn_r _ [11, 12, 4, 5, 6, 13, 14, 15, 10, 16, 17, 18, 19, 20, 21, 22, 23, 24, 25, 26, 27, 28, 29, 39, 40, 41, 42, 43, 44] (by decide +kernel) (by decide +kernel)
set_option maxRecDepth 20000 in
theorem gX4_greatestNeedOfWords_X1_greatestNeedOf : GoodIn wsX4_greatestNeedOfWords (wsV RX4 61 RX1 yX1_greatestNeedOf wsX1_greatestNeedOf) := goodIn_app (goodIn_of _ (by decide +kernel)) ggX4_greatestNeedOfWords_X1_greatestNeedOf
theorem dX4_greatestNeedOfWords_0 : decode cX4_greatestNeedOfWords 0 = .ok (.iconst 0, 1) := by decide +kernel
theorem dX4_greatestNeedOfWords_1 : decode cX4_greatestNeedOfWords 1 = .ok (.istore_n 1, 1) := by decide +kernel
theorem dX4_greatestNeedOfWords_2 : decode cX4_greatestNeedOfWords 2 = .ok (.iconst 0, 1) := by decide +kernel
theorem dX4_greatestNeedOfWords_3 : decode cX4_greatestNeedOfWords 3 = .ok (.istore_n 2, 1) := by decide +kernel
theorem dX4_greatestNeedOfWords_4 : decode cX4_greatestNeedOfWords 4 = .ok (.iload_n 2, 1) := by decide +kernel
theorem dX4_greatestNeedOfWords_5 : decode cX4_greatestNeedOfWords 5 = .ok (.aload_n 0, 1) := by decide +kernel
theorem dX4_greatestNeedOfWords_6 : decode cX4_greatestNeedOfWords 6 = .ok (.getfield 21, 3) := by decide +kernel
theorem dX4_greatestNeedOfWords_9 : decode cX4_greatestNeedOfWords 9 = .ok (.getfield 57, 3) := by decide +kernel
theorem dX4_greatestNeedOfWords_12 : decode cX4_greatestNeedOfWords 12 = .ok (.if_icmp .ge 30, 3) := by decide +kernel
theorem dX4_greatestNeedOfWords_15 : decode cX4_greatestNeedOfWords 15 = .ok (.iload_n 1, 1) := by decide +kernel
theorem dX4_greatestNeedOfWords_16 : decode cX4_greatestNeedOfWords 16 = .ok (.aload_n 0, 1) := by decide +kernel
theorem dX4_greatestNeedOfWords_17 : decode cX4_greatestNeedOfWords 17 = .ok (.getfield 12, 3) := by decide +kernel
theorem dX4_greatestNeedOfWords_20 : decode cX4_greatestNeedOfWords 20 = .ok (.aload_n 0, 1) := by decide +kernel
theorem dX4_greatestNeedOfWords_21 : decode cX4_greatestNeedOfWords 21 = .ok (.getfield 21, 3) := by decide +kernel
theorem dX4_greatestNeedOfWords_24 : decode cX4_greatestNeedOfWords 24 = .ok (.getfield 58, 3) := by decide +kernel
theorem dX4_greatestNeedOfWords_27 : decode cX4_greatestNeedOfWords 27 = .ok (.iload_n 2, 1) := by decide +kernel
theorem dX4_greatestNeedOfWords_28 : decode cX4_greatestNeedOfWords 28 = .ok (.aaload, 1) := by decide +kernel
theorem dX4_greatestNeedOfWords_29 : decode cX4_greatestNeedOfWords 29 = .ok (.invokevirtual 61, 3) := by decide +kernel
theorem dX4_greatestNeedOfWords_32 : decode cX4_greatestNeedOfWords 32 = .ok (.invokestatic 65, 3) := by decide +kernel
theorem dX4_greatestNeedOfWords_35 : decode cX4_greatestNeedOfWords 35 = .ok (.istore_n 1, 1) := by decide +kernel
theorem dX4_greatestNeedOfWords_36 : decode cX4_greatestNeedOfWords 36 = .ok (.iinc 2 1, 3) := by decide +kernel
theorem dX4_greatestNeedOfWords_39 : decode cX4_greatestNeedOfWords 39 = .ok (.goto (-35), 3) := by decide +kernel
theorem dX4_greatestNeedOfWords_42 : decode cX4_greatestNeedOfWords 42 = .ok (.iload_n 1, 1) := by decide +kernel
theorem dX4_greatestNeedOfWords_43 : decode cX4_greatestNeedOfWords 43 = .ok (.ireturn, 1) := by decide +kernel
set_option maxRecDepth 20000 in
theorem ggX4_copyFrom_X1_copyFrom : GoodIn wsX4_copyFrom wsX1_copyFrom := goodIn_r _ [12, 13, 14, 15, 16, 17, 18, 43, 44] (by decide +kernel) (by decide +kernel)
set_option maxRecDepth 20000 in
theorem gX4_copyFrom_X1_copyFrom : GoodIn wsX4_copyFrom (wsV RX4 71 RX1 yX1_copyFrom wsX1_copyFrom) := goodIn_app (goodIn_of _ (by decide +kernel)) ggX4_copyFrom_X1_copyFrom
set_option maxRecDepth 20000 in
theorem ggX4_copyFrom_X7_copyFrom : GoodIn wsX4_copyFrom wsX7_copyFrom := goodIn_r _ [23, 24, 25, 26, 27, 28, 29, 30, 31, 32, 15, 16, 17, 33, 34, 35, 45, 46, 47, 48, 49, 50] (by decide +kernel) (by decide +kernel)
set_option maxRecDepth 20000 in
theorem gX4_copyFrom_X7_copyFrom : GoodIn wsX4_copyFrom (wsV RX4 75 RX7 yX7_copyFrom wsX7_copyFrom) := goodIn_app (goodIn_of _ (by decide +kernel)) ggX4_copyFrom_X7_copyFrom
theorem dX4_copyFrom_0 : decode cX4_copyFrom 0 = .ok (.aload_n 0, 1) := by decide +kernel
theorem dX4_copyFrom_1 : decode cX4_copyFrom 1 = .ok (.getfield 12, 3) := by decide +kernel
theorem dX4_copyFrom_4 : decode cX4_copyFrom 4 = .ok (.aload_n 1, 1) := by decide +kernel
theorem dX4_copyFrom_5 : decode cX4_copyFrom 5 = .ok (.getfield 12, 3) := by decide +kernel
theorem dX4_copyFrom_8 : decode cX4_copyFrom 8 = .ok (.invokevirtual 71, 3) := by decide +kernel
theorem dX4_copyFrom_11 : decode cX4_copyFrom 11 = .ok (.aload_n 0, 1) := by decide +kernel
theorem dX4_copyFrom_12 : decode cX4_copyFrom 12 = .ok (.getfield 21, 3) := by decide +kernel
theorem dX4_copyFrom_15 : decode cX4_copyFrom 15 = .ok (.aload_n 1, 1) := by decide +kernel
theorem dX4_copyFrom_16 : decode cX4_copyFrom 16 = .ok (.getfield 21, 3) := by decide +kernel
theorem dX4_copyFrom_19 : decode cX4_copyFrom 19 = .ok (.invokevirtual 75, 3) := by decide +kernel
theorem dX4_copyFrom_22 : decode cX4_copyFrom 22 = .ok (.aload_n 0, 1) := by decide +kernel
theorem dX4_copyFrom_23 : decode cX4_copyFrom 23 = .ok (.aload_n 1, 1) := by decide +kernel
theorem dX4_copyFrom_24 : decode cX4_copyFrom 24 = .ok (.getfield 25, 3) := by decide +kernel
theorem dX4_copyFrom_27 : decode cX4_copyFrom 27 = .ok (.putfield 25, 3) := by decide +kernel
theorem dX4_copyFrom_30 : decode cX4_copyFrom 30 = .ok (.aload_n 0, 1) := by decide +kernel
theorem dX4_copyFrom_31 : decode cX4_copyFrom 31 = .ok (.aload_n 1, 1) := by decide +kernel
theorem dX4_copyFrom_32 : decode cX4_copyFrom 32 = .ok (.getfield 29, 3) := by decide +kernel
theorem dX4_copyFrom_35 : decode cX4_copyFrom 35 = .ok (.putfield 29, 3) := by decide +kernel
theorem dX4_copyFrom_38 : decode cX4_copyFrom 38 = .ok (.aload_n 0, 1) := by decide +kernel
theorem dX4_copyFrom_39 : decode cX4_copyFrom 39 = .ok (.aload_n 1, 1) := by decide +kernel
theorem dX4_copyFrom_40 : decode cX4_copyFrom 40 = .ok (.getfield 32, 3) := by decide +kernel
theorem dX4_copyFrom_43 : decode cX4_copyFrom 43 = .ok (.putfield 32, 3) := by decide +kernel
theorem dX4_copyFrom_46 : decode cX4_copyFrom 46 = .ok (.aload_n 0, 1) := by decide +kernel
theorem dX4_copyFrom_47 : decode cX4_copyFrom 47 = .ok (.aload_n 1, 1) := by decide +kernel
theorem dX4_copyFrom_48 : decode cX4_copyFrom 48 = .ok (.getfield 35, 3) := by decide +kernel
theorem dX4_copyFrom_51 : decode cX4_copyFrom 51 = .ok (.putfield 35, 3) := by decide +kernel
theorem dX4_copyFrom_54 : decode cX4_copyFrom 54 = .ok (.aload_n 0, 1) := by decide +kernel
theorem dX4_copyFrom_55 : decode cX4_copyFrom 55 = .ok (.aload_n 1, 1) := by decide +kernel
theorem dX4_copyFrom_56 : decode cX4_copyFrom 56 = .ok (.getfield 38, 3) := by decide +kernel
theorem dX4_copyFrom_59 : decode cX4_copyFrom 59 = .ok (.putfield 38, 3) := by decide +kernel
theorem dX4_copyFrom_62 : decode cX4_copyFrom 62 = .ok (.return_, 1) := by decide +kernel
set_option maxRecDepth 20000 in
theorem ggX5_init_X6_init : GoodIn wsX5_init wsX6_init := goodIn_r _ [13, 14, 2, 3, 15, 16, 17, 18, 19, 23, 24, 25, 26] (by decide +kernel) (by decide +kernel)
set_option maxRecDepth 20000 in
theorem gX5_init_X6_init : GoodIn wsX5_init (wsX6_init) := ggX5_init_X6_init
theorem dX5_init_0 : decode cX5_init 0 = .ok (.aload_n 0, 1) := by decide +kernel
theorem dX5_init_1 : decode cX5_init 1 = .ok (.invokespecial 3, 3) := by decide +kernel
theorem dX5_init_4 : decode cX5_init 4 = .ok (.aload_n 0, 1) := by decide +kernel
theorem dX5_init_5 : decode cX5_init 5 = .ok (.bipush 60, 2) := by decide +kernel
theorem dX5_init_7 : decode cX5_init 7 = .ok (.newarray .char, 2) := by decide +kernel
theorem dX5_init_9 : decode cX5_init 9 = .ok (.putfield 9, 3) := by decide +kernel
theorem dX5_init_12 : decode cX5_init 12 = .ok (.aload_n 0, 1) := by decide +kernel
theorem dX5_init_13 : decode cX5_init 13 = .ok (.new 15, 3) := by decide +kernel
theorem dX5_init_16 : decode cX5_init 16 = .ok (.dup, 1) := by decide +kernel
theorem dX5_init_17 : decode cX5_init 17 = .ok (.invokespecial 17, 3) := by decide +kernel
theorem dX5_init_20 : decode cX5_init 20 = .ok (.putfield 18, 3) := by decide +kernel
theorem dX5_init_23 : decode cX5_init 23 = .ok (.aload_n 0, 1) := by decide +kernel
theorem dX5_init_24 : decode cX5_init 24 = .ok (.iconst 0, 1) := by decide +kernel
theorem dX5_init_25 : decode cX5_init 25 = .ok (.putfield 22, 3) := by decide +kernel
theorem dX5_init_28 : decode cX5_init 28 = .ok (.return_, 1) := by decide +kernel
theorem dX5_append_0 : decode cX5_append 0 = .ok (.aload_n 0, 1) := by decide +kernel
theorem dX5_append_1 : decode cX5_append 1 = .ok (.getfield 22, 3) := by decide +kernel
theorem dX5_append_4 : decode cX5_append 4 = .ok (.bipush 60, 2) := by decide +kernel
theorem dX5_append_6 : decode cX5_append 6 = .ok (.if_icmp .lt 5, 3) := by decide +kernel
theorem dX5_append_9 : decode cX5_append 9 = .ok (.iconst 0, 1) := by decide +kernel
theorem dX5_append_10 : decode cX5_append 10 = .ok (.ireturn, 1) := by decide +kernel
theorem dX5_append_11 : decode cX5_append 11 = .ok (.aload_n 0, 1) := by decide +kernel
theorem dX5_append_12 : decode cX5_append 12 = .ok (.getfield 9, 3) := by decide +kernel
theorem dX5_append_15 : decode cX5_append 15 = .ok (.aload_n 0, 1) := by decide +kernel
theorem dX5_append_16 : decode cX5_append 16 = .ok (.getfield 22, 3) := by decide +kernel
theorem dX5_append_19 : decode cX5_append 19 = .ok (.iload_n 1, 1) := by decide +kernel
theorem dX5_append_20 : decode cX5_append 20 = .ok (.castore, 1) := by decide +kernel
theorem dX5_append_21 : decode cX5_append 21 = .ok (.aload_n 0, 1) := by decide +kernel
theorem dX5_append_22 : decode cX5_append 22 = .ok (.dup, 1) := by decide +kernel
theorem dX5_append_23 : decode cX5_append 23 = .ok (.getfield 22, 3) := by decide +kernel
theorem dX5_append_26 : decode cX5_append 26 = .ok (.iconst 1, 1) := by decide +kernel
theorem dX5_append_27 : decode cX5_append 27 = .ok (.iadd, 1) := by decide +kernel
theorem dX5_append_28 : decode cX5_append 28 = .ok (.putfield 22, 3) := by decide +kernel
theorem dX5_append_31 : decode cX5_append 31 = .ok (.iconst 1, 1) := by decide +kernel
theorem dX5_append_32 : decode cX5_append 32 = .ok (.ireturn, 1) := by decide +kernel
set_option maxRecDepth 20000 in
theorem ggX5_faultAsWritten_X5_mayBeWritten : GoodIn wsX5_faultAsWritten wsX5_mayBeWritten := goodIn_r _ [6, 7, 8, 9] (by decide +kernel) (by decide +kernel)
set_option maxRecDepth 20000 in
theorem gX5_faultAsWritten_X5_mayBeWritten : GoodIn wsX5_faultAsWritten (va_wsS RX5 26 yX5_mayBeWritten wsX5_mayBeWritten) := goodIn_app (goodIn_of _ (by decide +kernel)) ggX5_faultAsWritten_X5_mayBeWritten
set_option maxRecDepth 20000 in
theorem ggX5_faultAsWritten_X8_isLetter : GoodIn wsX5_faultAsWritten wsX8_isLetter := goodIn_r _ [9] (by decide +kernel) (by decide +kernel)
set_option maxRecDepth 20000 in
theorem gX5_faultAsWritten_X8_isLetter_n30 : GoodIn wsX5_faultAsWritten (wsX8_isLetter) := ggX5_faultAsWritten_X8_isLetter
theorem dX5_faultAsWritten_0 : decode cX5_faultAsWritten 0 = .ok (.bipush 45, 2) := by decide +kernel
theorem dX5_faultAsWritten_2 : decode cX5_faultAsWritten 2 = .ok (.istore_n 1, 1) := by decide +kernel
theorem dX5_faultAsWritten_3 : decode cX5_faultAsWritten 3 = .ok (.iconst 0, 1) := by decide +kernel
theorem dX5_faultAsWritten_4 : decode cX5_faultAsWritten 4 = .ok (.istore_n 2, 1) := by decide +kernel
theorem dX5_faultAsWritten_5 : decode cX5_faultAsWritten 5 = .ok (.iconst 0, 1) := by decide +kernel
theorem dX5_faultAsWritten_6 : decode cX5_faultAsWritten 6 = .ok (.istore_n 3, 1) := by decide +kernel
theorem dX5_faultAsWritten_7 : decode cX5_faultAsWritten 7 = .ok (.iload_n 3, 1) := by decide +kernel
theorem dX5_faultAsWritten_8 : decode cX5_faultAsWritten 8 = .ok (.aload_n 0, 1) := by decide +kernel
theorem dX5_faultAsWritten_9 : decode cX5_faultAsWritten 9 = .ok (.getfield 22, 3) := by decide +kernel
theorem dX5_faultAsWritten_12 : decode cX5_faultAsWritten 12 = .ok (.if_icmp .ge 43, 3) := by decide +kernel
theorem dX5_faultAsWritten_15 : decode cX5_faultAsWritten 15 = .ok (.aload_n 0, 1) := by decide +kernel
theorem dX5_faultAsWritten_16 : decode cX5_faultAsWritten 16 = .ok (.getfield 9, 3) := by decide +kernel
theorem dX5_faultAsWritten_19 : decode cX5_faultAsWritten 19 = .ok (.iload_n 3, 1) := by decide +kernel
theorem dX5_faultAsWritten_20 : decode cX5_faultAsWritten 20 = .ok (.caload, 1) := by decide +kernel
theorem dX5_faultAsWritten_21 : decode cX5_faultAsWritten 21 = .ok (.istore 4, 2) := by decide +kernel
theorem dX5_faultAsWritten_23 : decode cX5_faultAsWritten 23 = .ok (.iload 4, 2) := by decide +kernel
theorem dX5_faultAsWritten_25 : decode cX5_faultAsWritten 25 = .ok (.iload_n 1, 1) := by decide +kernel
theorem dX5_faultAsWritten_26 : decode cX5_faultAsWritten 26 = .ok (.iload_n 2, 1) := by decide +kernel
theorem dX5_faultAsWritten_27 : decode cX5_faultAsWritten 27 = .ok (.invokestatic 26, 3) := by decide +kernel
theorem dX5_faultAsWritten_30 : decode cX5_faultAsWritten 30 = .ok (.ifCond .ne 5, 3) := by decide +kernel
theorem dX5_faultAsWritten_33 : decode cX5_faultAsWritten 33 = .ok (.iload_n 3, 1) := by decide +kernel
theorem dX5_faultAsWritten_34 : decode cX5_faultAsWritten 34 = .ok (.ireturn, 1) := by decide +kernel
theorem dX5_faultAsWritten_35 : decode cX5_faultAsWritten 35 = .ok (.iload 4, 2) := by decide +kernel
theorem dX5_faultAsWritten_37 : decode cX5_faultAsWritten 37 = .ok (.invokestatic 30, 3) := by decide +kernel
theorem dX5_faultAsWritten_40 : decode cX5_faultAsWritten 40 = .ok (.ifCond .eq 6, 3) := by decide +kernel
theorem dX5_faultAsWritten_43 : decode cX5_faultAsWritten 43 = .ok (.iinc 2 1, 3) := by decide +kernel
theorem dX5_faultAsWritten_46 : decode cX5_faultAsWritten 46 = .ok (.iload 4, 2) := by decide +kernel
theorem dX5_faultAsWritten_48 : decode cX5_faultAsWritten 48 = .ok (.istore_n 1, 1) := by decide +kernel
theorem dX5_faultAsWritten_49 : decode cX5_faultAsWritten 49 = .ok (.iinc 3 1, 3) := by decide +kernel
theorem dX5_faultAsWritten_52 : decode cX5_faultAsWritten 52 = .ok (.goto (-45), 3) := by decide +kernel
theorem dX5_faultAsWritten_55 : decode cX5_faultAsWritten 55 = .ok (.iload_n 1, 1) := by decide +kernel
theorem dX5_faultAsWritten_56 : decode cX5_faultAsWritten 56 = .ok (.bipush 45, 2) := by decide +kernel
theorem dX5_faultAsWritten_58 : decode cX5_faultAsWritten 58 = .ok (.if_icmp .ne 10, 3) := by decide +kernel
theorem dX5_faultAsWritten_61 : decode cX5_faultAsWritten 61 = .ok (.aload_n 0, 1) := by decide +kernel
theorem dX5_faultAsWritten_62 : decode cX5_faultAsWritten 62 = .ok (.getfield 22, 3) := by decide +kernel
theorem dX5_faultAsWritten_65 : decode cX5_faultAsWritten 65 = .ok (.goto 4, 3) := by decide +kernel
theorem dX5_faultAsWritten_68 : decode cX5_faultAsWritten 68 = .ok (.iconst (-1), 1) := by decide +kernel
theorem dX5_faultAsWritten_69 : decode cX5_faultAsWritten 69 = .ok (.ireturn, 1) := by decide +kernel
set_option maxRecDepth 20000 in
theorem ggX5_mayBeWritten_X8_isLetter : GoodIn wsX5_mayBeWritten wsX8_isLetter := goodIn_r _ [3] (by decide +kernel) (by decide +kernel)
set_option maxRecDepth 20000 in
theorem gX5_mayBeWritten_X8_isLetter_n30 : GoodIn wsX5_mayBeWritten (wsX8_isLetter) := ggX5_mayBeWritten_X8_isLetter
theorem dX5_mayBeWritten_0 : decode cX5_mayBeWritten 0 = .ok (.iload_n 0, 1) := by decide +kernel
theorem dX5_mayBeWritten_1 : decode cX5_mayBeWritten 1 = .ok (.bipush 33, 2) := by decide +kernel
theorem dX5_mayBeWritten_3 : decode cX5_mayBeWritten 3 = .ok (.if_icmp .ne 8, 3) := by decide +kernel
theorem dX5_mayBeWritten_6 : decode cX5_mayBeWritten 6 = .ok (.iload_n 1, 1) := by decide +kernel
theorem dX5_mayBeWritten_7 : decode cX5_mayBeWritten 7 = .ok (.invokestatic 30, 3) := by decide +kernel
theorem dX5_mayBeWritten_10 : decode cX5_mayBeWritten 10 = .ok (.ireturn, 1) := by decide +kernel
theorem dX5_mayBeWritten_11 : decode cX5_mayBeWritten 11 = .ok (.iload_n 0, 1) := by decide +kernel
theorem dX5_mayBeWritten_12 : decode cX5_mayBeWritten 12 = .ok (.bipush 45, 2) := by decide +kernel
theorem dX5_mayBeWritten_14 : decode cX5_mayBeWritten 14 = .ok (.if_icmp .ne 21, 3) := by decide +kernel
theorem dX5_mayBeWritten_17 : decode cX5_mayBeWritten 17 = .ok (.iload_n 1, 1) := by decide +kernel
theorem dX5_mayBeWritten_18 : decode cX5_mayBeWritten 18 = .ok (.bipush 45, 2) := by decide +kernel
theorem dX5_mayBeWritten_20 : decode cX5_mayBeWritten 20 = .ok (.if_icmp .eq 13, 3) := by decide +kernel
theorem dX5_mayBeWritten_23 : decode cX5_mayBeWritten 23 = .ok (.iload_n 2, 1) := by decide +kernel
theorem dX5_mayBeWritten_24 : decode cX5_mayBeWritten 24 = .ok (.bipush 15, 2) := by decide +kernel
theorem dX5_mayBeWritten_26 : decode cX5_mayBeWritten 26 = .ok (.if_icmp .ge 7, 3) := by decide +kernel
theorem dX5_mayBeWritten_29 : decode cX5_mayBeWritten 29 = .ok (.iconst 1, 1) := by decide +kernel
theorem dX5_mayBeWritten_30 : decode cX5_mayBeWritten 30 = .ok (.goto 4, 3) := by decide +kernel
theorem dX5_mayBeWritten_33 : decode cX5_mayBeWritten 33 = .ok (.iconst 0, 1) := by decide +kernel
theorem dX5_mayBeWritten_34 : decode cX5_mayBeWritten 34 = .ok (.ireturn, 1) := by decide +kernel
theorem dX5_mayBeWritten_35 : decode cX5_mayBeWritten 35 = .ok (.iload_n 0, 1) := by decide +kernel
theorem dX5_mayBeWritten_36 : decode cX5_mayBeWritten 36 = .ok (.invokestatic 30, 3) := by decide +kernel
theorem dX5_mayBeWritten_39 : decode cX5_mayBeWritten 39 = .ok (.ifCond .eq 13, 3) := by decide +kernel
theorem dX5_mayBeWritten_42 : decode cX5_mayBeWritten 42 = .ok (.iload_n 2, 1) := by decide +kernel
theorem dX5_mayBeWritten_43 : decode cX5_mayBeWritten 43 = .ok (.bipush 15, 2) := by decide +kernel
theorem dX5_mayBeWritten_45 : decode cX5_mayBeWritten 45 = .ok (.if_icmp .ge 7, 3) := by decide +kernel
theorem dX5_mayBeWritten_48 : decode cX5_mayBeWritten 48 = .ok (.iconst 1, 1) := by decide +kernel
theorem dX5_mayBeWritten_49 : decode cX5_mayBeWritten 49 = .ok (.goto 4, 3) := by decide +kernel
theorem dX5_mayBeWritten_52 : decode cX5_mayBeWritten 52 = .ok (.iconst 0, 1) := by decide +kernel
theorem dX5_mayBeWritten_53 : decode cX5_mayBeWritten 53 = .ok (.ireturn, 1) := by decide +kernel
set_option maxRecDepth 20000 in
theorem ggX5_faultAsWords_X8_isLetter : GoodIn wsX5_faultAsWords wsX8_isLetter := goodIn_r _ [5] (by decide +kernel) (by decide +kernel)
set_option maxRecDepth 20000 in
theorem gX5_faultAsWords_X8_isLetter_n30 : GoodIn wsX5_faultAsWords (wsX8_isLetter) := ggX5_faultAsWords_X8_isLetter
theorem dX5_faultAsWords_0 : decode cX5_faultAsWords 0 = .ok (.iconst 0, 1) := by decide +kernel
theorem dX5_faultAsWords_1 : decode cX5_faultAsWords 1 = .ok (.istore_n 1, 1) := by decide +kernel
theorem dX5_faultAsWords_2 : decode cX5_faultAsWords 2 = .ok (.iconst 0, 1) := by decide +kernel
theorem dX5_faultAsWords_3 : decode cX5_faultAsWords 3 = .ok (.istore_n 2, 1) := by decide +kernel
theorem dX5_faultAsWords_4 : decode cX5_faultAsWords 4 = .ok (.iload_n 2, 1) := by decide +kernel
theorem dX5_faultAsWords_5 : decode cX5_faultAsWords 5 = .ok (.aload_n 0, 1) := by decide +kernel
theorem dX5_faultAsWords_6 : decode cX5_faultAsWords 6 = .ok (.getfield 22, 3) := by decide +kernel
theorem dX5_faultAsWords_9 : decode cX5_faultAsWords 9 = .ok (.if_icmp .ge 55, 3) := by decide +kernel
theorem dX5_faultAsWords_12 : decode cX5_faultAsWords 12 = .ok (.aload_n 0, 1) := by decide +kernel
theorem dX5_faultAsWords_13 : decode cX5_faultAsWords 13 = .ok (.getfield 9, 3) := by decide +kernel
theorem dX5_faultAsWords_16 : decode cX5_faultAsWords 16 = .ok (.iload_n 2, 1) := by decide +kernel
theorem dX5_faultAsWords_17 : decode cX5_faultAsWords 17 = .ok (.caload, 1) := by decide +kernel
theorem dX5_faultAsWords_18 : decode cX5_faultAsWords 18 = .ok (.invokestatic 30, 3) := by decide +kernel
theorem dX5_faultAsWords_21 : decode cX5_faultAsWords 21 = .ok (.ifCond .eq 15, 3) := by decide +kernel
theorem dX5_faultAsWords_24 : decode cX5_faultAsWords 24 = .ok (.iload_n 1, 1) := by decide +kernel
theorem dX5_faultAsWords_25 : decode cX5_faultAsWords 25 = .ok (.bipush 15, 2) := by decide +kernel
theorem dX5_faultAsWords_27 : decode cX5_faultAsWords 27 = .ok (.if_icmp .ge 9, 3) := by decide +kernel
theorem dX5_faultAsWords_30 : decode cX5_faultAsWords 30 = .ok (.iinc 1 1, 3) := by decide +kernel
theorem dX5_faultAsWords_33 : decode cX5_faultAsWords 33 = .ok (.goto 25, 3) := by decide +kernel
theorem dX5_faultAsWords_36 : decode cX5_faultAsWords 36 = .ok (.aload_n 0, 1) := by decide +kernel
theorem dX5_faultAsWords_37 : decode cX5_faultAsWords 37 = .ok (.getfield 9, 3) := by decide +kernel
theorem dX5_faultAsWords_40 : decode cX5_faultAsWords 40 = .ok (.iload_n 2, 1) := by decide +kernel
theorem dX5_faultAsWords_41 : decode cX5_faultAsWords 41 = .ok (.caload, 1) := by decide +kernel
theorem dX5_faultAsWords_42 : decode cX5_faultAsWords 42 = .ok (.bipush 44, 2) := by decide +kernel
theorem dX5_faultAsWords_44 : decode cX5_faultAsWords 44 = .ok (.if_icmp .ne 12, 3) := by decide +kernel
theorem dX5_faultAsWords_47 : decode cX5_faultAsWords 47 = .ok (.iload_n 1, 1) := by decide +kernel
theorem dX5_faultAsWords_48 : decode cX5_faultAsWords 48 = .ok (.ifCond .le 8, 3) := by decide +kernel
theorem dX5_faultAsWords_51 : decode cX5_faultAsWords 51 = .ok (.iconst 0, 1) := by decide +kernel
theorem dX5_faultAsWords_52 : decode cX5_faultAsWords 52 = .ok (.istore_n 1, 1) := by decide +kernel
theorem dX5_faultAsWords_53 : decode cX5_faultAsWords 53 = .ok (.goto 5, 3) := by decide +kernel
theorem dX5_faultAsWords_56 : decode cX5_faultAsWords 56 = .ok (.iload_n 2, 1) := by decide +kernel
theorem dX5_faultAsWords_57 : decode cX5_faultAsWords 57 = .ok (.ireturn, 1) := by decide +kernel
theorem dX5_faultAsWords_58 : decode cX5_faultAsWords 58 = .ok (.iinc 2 1, 3) := by decide +kernel
theorem dX5_faultAsWords_61 : decode cX5_faultAsWords 61 = .ok (.goto (-57), 3) := by decide +kernel
theorem dX5_faultAsWords_64 : decode cX5_faultAsWords 64 = .ok (.iload_n 1, 1) := by decide +kernel
theorem dX5_faultAsWords_65 : decode cX5_faultAsWords 65 = .ok (.ifCond .ne 10, 3) := by decide +kernel
theorem dX5_faultAsWords_68 : decode cX5_faultAsWords 68 = .ok (.aload_n 0, 1) := by decide +kernel
theorem dX5_faultAsWords_69 : decode cX5_faultAsWords 69 = .ok (.getfield 22, 3) := by decide +kernel
theorem dX5_faultAsWords_72 : decode cX5_faultAsWords 72 = .ok (.goto 4, 3) := by decide +kernel
theorem dX5_faultAsWords_75 : decode cX5_faultAsWords 75 = .ok (.iconst (-1), 1) := by decide +kernel
theorem dX5_faultAsWords_76 : decode cX5_faultAsWords 76 = .ok (.ireturn, 1) := by decide +kernel
set_option maxRecDepth 20000 in
theorem ggX5_practiseIn_X1_addSlip : GoodIn wsX5_practiseIn wsX1_addSlip := goodIn_r _ [7, 8, 9, 10, 11, 28, 29] (by decide +kernel) (by decide +kernel)
set_option maxRecDepth 20000 in
theorem gX5_practiseIn_X1_addSlip : GoodIn wsX5_practiseIn (wsV RX5 34 RX1 yX1_addSlip wsX1_addSlip) := goodIn_app (goodIn_of _ (by decide +kernel)) ggX5_practiseIn_X1_addSlip
set_option maxRecDepth 20000 in
theorem ggX5_practiseIn_X8_letterNumber : GoodIn wsX5_practiseIn wsX8_letterNumber := goodIn_r _ [13] (by decide +kernel) (by decide +kernel)
set_option maxRecDepth 20000 in
theorem gX5_practiseIn_X8_letterNumber_n40 : GoodIn wsX5_practiseIn (wsX8_letterNumber) := ggX5_practiseIn_X8_letterNumber
set_option maxRecDepth 20000 in
theorem ggX5_practiseIn_X1_addTry : GoodIn wsX5_practiseIn wsX1_addTry := goodIn_r _ [17, 18, 9, 10, 11, 28, 29] (by decide +kernel) (by decide +kernel)
set_option maxRecDepth 20000 in
theorem gX5_practiseIn_X1_addTry : GoodIn wsX5_practiseIn (wsV RX5 44 RX1 yX1_addTry wsX1_addTry) := goodIn_app (goodIn_of _ (by decide +kernel)) ggX5_practiseIn_X1_addTry
set_option maxRecDepth 20000 in
theorem ggX5_practiseIn_X8_joinPart : GoodIn wsX5_practiseIn wsX8_joinPart := goodIn_r _ [20] (by decide +kernel) (by decide +kernel)
set_option maxRecDepth 20000 in
theorem gX5_practiseIn_X8_joinPart_n47 : GoodIn wsX5_practiseIn (wsX8_joinPart) := ggX5_practiseIn_X8_joinPart
set_option maxRecDepth 20000 in
theorem ggX5_practiseIn_X5_tryJoin : GoodIn wsX5_practiseIn wsX5_tryJoin := goodIn_r _ [24, 14, 15, 16, 6, 17, 18, 9, 10, 11, 3, 4, 5, 7, 8, 28, 29] (by decide +kernel) (by decide +kernel)
set_option maxRecDepth 20000 in
theorem gX5_practiseIn_X5_tryJoin : GoodIn wsX5_practiseIn (va_wsS RX5 51 yX5_tryJoin wsX5_tryJoin) := goodIn_app (goodIn_of _ (by decide +kernel)) ggX5_practiseIn_X5_tryJoin
theorem dX5_practiseIn_0 : decode cX5_practiseIn 0 = .ok (.iconst 0, 1) := by decide +kernel
theorem dX5_practiseIn_1 : decode cX5_practiseIn 1 = .ok (.istore_n 2, 1) := by decide +kernel
theorem dX5_practiseIn_2 : decode cX5_practiseIn 2 = .ok (.bipush (-5), 2) := by decide +kernel
theorem dX5_practiseIn_4 : decode cX5_practiseIn 4 = .ok (.istore_n 3, 1) := by decide +kernel
theorem dX5_practiseIn_5 : decode cX5_practiseIn 5 = .ok (.iconst 0, 1) := by decide +kernel
theorem dX5_practiseIn_6 : decode cX5_practiseIn 6 = .ok (.istore 4, 2) := by decide +kernel
theorem dX5_practiseIn_8 : decode cX5_practiseIn 8 = .ok (.iconst 0, 1) := by decide +kernel
theorem dX5_practiseIn_9 : decode cX5_practiseIn 9 = .ok (.istore 5, 2) := by decide +kernel
theorem dX5_practiseIn_11 : decode cX5_practiseIn 11 = .ok (.iload 5, 2) := by decide +kernel
theorem dX5_practiseIn_13 : decode cX5_practiseIn 13 = .ok (.aload_n 0, 1) := by decide +kernel
theorem dX5_practiseIn_14 : decode cX5_practiseIn 14 = .ok (.getfield 22, 3) := by decide +kernel
theorem dX5_practiseIn_17 : decode cX5_practiseIn 17 = .ok (.if_icmp .ge 89, 3) := by decide +kernel
theorem dX5_practiseIn_20 : decode cX5_practiseIn 20 = .ok (.aload_n 0, 1) := by decide +kernel
theorem dX5_practiseIn_21 : decode cX5_practiseIn 21 = .ok (.getfield 9, 3) := by decide +kernel
theorem dX5_practiseIn_24 : decode cX5_practiseIn 24 = .ok (.iload 5, 2) := by decide +kernel
theorem dX5_practiseIn_26 : decode cX5_practiseIn 26 = .ok (.caload, 1) := by decide +kernel
theorem dX5_practiseIn_27 : decode cX5_practiseIn 27 = .ok (.istore 6, 2) := by decide +kernel
theorem dX5_practiseIn_29 : decode cX5_practiseIn 29 = .ok (.iload 6, 2) := by decide +kernel
theorem dX5_practiseIn_31 : decode cX5_practiseIn 31 = .ok (.bipush 33, 2) := by decide +kernel
theorem dX5_practiseIn_33 : decode cX5_practiseIn 33 = .ok (.if_icmp .ne 14, 3) := by decide +kernel
theorem dX5_practiseIn_36 : decode cX5_practiseIn 36 = .ok (.aload_n 1, 1) := by decide +kernel
theorem dX5_practiseIn_37 : decode cX5_practiseIn 37 = .ok (.iload_n 3, 1) := by decide +kernel
theorem dX5_practiseIn_38 : decode cX5_practiseIn 38 = .ok (.invokevirtual 34, 3) := by decide +kernel
theorem dX5_practiseIn_41 : decode cX5_practiseIn 41 = .ok (.iinc 2 1, 3) := by decide +kernel
theorem dX5_practiseIn_44 : decode cX5_practiseIn 44 = .ok (.goto 56, 3) := by decide +kernel
theorem dX5_practiseIn_47 : decode cX5_practiseIn 47 = .ok (.iload 6, 2) := by decide +kernel
theorem dX5_practiseIn_49 : decode cX5_practiseIn 49 = .ok (.bipush 45, 2) := by decide +kernel
theorem dX5_practiseIn_51 : decode cX5_practiseIn 51 = .ok (.if_icmp .ne 12, 3) := by decide +kernel
theorem dX5_practiseIn_54 : decode cX5_practiseIn 54 = .ok (.iconst 1, 1) := by decide +kernel
theorem dX5_practiseIn_55 : decode cX5_practiseIn 55 = .ok (.istore 4, 2) := by decide +kernel
theorem dX5_practiseIn_57 : decode cX5_practiseIn 57 = .ok (.iinc 2 1, 3) := by decide +kernel
theorem dX5_practiseIn_60 : decode cX5_practiseIn 60 = .ok (.goto 40, 3) := by decide +kernel
theorem dX5_practiseIn_63 : decode cX5_practiseIn 63 = .ok (.iload 6, 2) := by decide +kernel
theorem dX5_practiseIn_65 : decode cX5_practiseIn 65 = .ok (.invokestatic 40, 3) := by decide +kernel
theorem dX5_practiseIn_68 : decode cX5_practiseIn 68 = .ok (.istore 7, 2) := by decide +kernel
theorem dX5_practiseIn_70 : decode cX5_practiseIn 70 = .ok (.aload_n 1, 1) := by decide +kernel
theorem dX5_practiseIn_71 : decode cX5_practiseIn 71 = .ok (.iload 7, 2) := by decide +kernel
theorem dX5_practiseIn_73 : decode cX5_practiseIn 73 = .ok (.invokevirtual 44, 3) := by decide +kernel
theorem dX5_practiseIn_76 : decode cX5_practiseIn 76 = .ok (.iload_n 3, 1) := by decide +kernel
theorem dX5_practiseIn_77 : decode cX5_practiseIn 77 = .ok (.bipush (-5), 2) := by decide +kernel
theorem dX5_practiseIn_79 : decode cX5_practiseIn 79 = .ok (.if_icmp .eq 15, 3) := by decide +kernel
theorem dX5_practiseIn_82 : decode cX5_practiseIn 82 = .ok (.aload_n 1, 1) := by decide +kernel
theorem dX5_practiseIn_83 : decode cX5_practiseIn 83 = .ok (.iload_n 3, 1) := by decide +kernel
theorem dX5_practiseIn_84 : decode cX5_practiseIn 84 = .ok (.iload 7, 2) := by decide +kernel
theorem dX5_practiseIn_86 : decode cX5_practiseIn 86 = .ok (.invokestatic 47, 3) := by decide +kernel
theorem dX5_practiseIn_89 : decode cX5_practiseIn 89 = .ok (.iload 4, 2) := by decide +kernel
theorem dX5_practiseIn_91 : decode cX5_practiseIn 91 = .ok (.invokestatic 51, 3) := by decide +kernel
theorem dX5_practiseIn_94 : decode cX5_practiseIn 94 = .ok (.iconst 0, 1) := by decide +kernel
theorem dX5_practiseIn_95 : decode cX5_practiseIn 95 = .ok (.istore 4, 2) := by decide +kernel
theorem dX5_practiseIn_97 : decode cX5_practiseIn 97 = .ok (.iload 7, 2) := by decide +kernel
theorem dX5_practiseIn_99 : decode cX5_practiseIn 99 = .ok (.istore_n 3, 1) := by decide +kernel
theorem dX5_practiseIn_100 : decode cX5_practiseIn 100 = .ok (.iinc 5 1, 3) := by decide +kernel
theorem dX5_practiseIn_103 : decode cX5_practiseIn 103 = .ok (.goto (-92), 3) := by decide +kernel
theorem dX5_practiseIn_106 : decode cX5_practiseIn 106 = .ok (.iload_n 2, 1) := by decide +kernel
theorem dX5_practiseIn_107 : decode cX5_practiseIn 107 = .ok (.ireturn, 1) := by decide +kernel
set_option maxRecDepth 20000 in
theorem ggX5_tryJoin_X1_addTry : GoodIn wsX5_tryJoin wsX1_addTry := goodIn_r _ [5, 6, 7, 8, 9, 15, 16] (by decide +kernel) (by decide +kernel)
set_option maxRecDepth 20000 in
theorem gX5_tryJoin_X1_addTry : GoodIn wsX5_tryJoin (wsV RX5 44 RX1 yX1_addTry wsX1_addTry) := goodIn_app (goodIn_of _ (by decide +kernel)) ggX5_tryJoin_X1_addTry
set_option maxRecDepth 20000 in
theorem ggX5_tryJoin_X1_addSlip : GoodIn wsX5_tryJoin wsX1_addSlip := goodIn_r _ [13, 14, 7, 8, 9, 15, 16] (by decide +kernel) (by decide +kernel)
set_option maxRecDepth 20000 in
theorem gX5_tryJoin_X1_addSlip : GoodIn wsX5_tryJoin (wsV RX5 34 RX1 yX1_addSlip wsX1_addSlip) := goodIn_app (goodIn_of _ (by decide +kernel)) ggX5_tryJoin_X1_addSlip
theorem dX5_tryJoin_0 : decode cX5_tryJoin 0 = .ok (.aload_n 0, 1) := by decide +kernel
theorem dX5_tryJoin_1 : decode cX5_tryJoin 1 = .ok (.iload_n 1, 1) := by decide +kernel
theorem dX5_tryJoin_2 : decode cX5_tryJoin 2 = .ok (.invokevirtual 44, 3) := by decide +kernel
theorem dX5_tryJoin_5 : decode cX5_tryJoin 5 = .ok (.iload_n 2, 1) := by decide +kernel
theorem dX5_tryJoin_6 : decode cX5_tryJoin 6 = .ok (.ifCond .eq 8, 3) := by decide +kernel
theorem dX5_tryJoin_9 : decode cX5_tryJoin 9 = .ok (.aload_n 0, 1) := by decide +kernel
theorem dX5_tryJoin_10 : decode cX5_tryJoin 10 = .ok (.iload_n 1, 1) := by decide +kernel
theorem dX5_tryJoin_11 : decode cX5_tryJoin 11 = .ok (.invokevirtual 34, 3) := by decide +kernel
theorem dX5_tryJoin_14 : decode cX5_tryJoin 14 = .ok (.return_, 1) := by decide +kernel
set_option maxRecDepth 20000 in
theorem ggX5_spellInto_X6_clear : GoodIn wsX5_spellInto wsX6_clear := goodIn_r _ [8, 9, 10, 52, 53, 54, 55] (by decide +kernel) (by decide +kernel)
set_option maxRecDepth 20000 in
theorem gX5_spellInto_X6_clear : GoodIn wsX5_spellInto (wsV RX5 55 RX6 yX6_clear wsX6_clear) := goodIn_app (goodIn_of _ (by decide +kernel)) ggX5_spellInto_X6_clear
set_option maxRecDepth 20000 in
theorem ggX5_spellInto_X8_letterNumber : GoodIn wsX5_spellInto wsX8_letterNumber := goodIn_r _ [13] (by decide +kernel) (by decide +kernel)
set_option maxRecDepth 20000 in
theorem gX5_spellInto_X8_letterNumber_n40 : GoodIn wsX5_spellInto (wsX8_letterNumber) := ggX5_spellInto_X8_letterNumber
set_option maxRecDepth 20000 in
theorem ggX5_spellInto_X6_append : GoodIn wsX5_spellInto wsX6_append := goodIn_r _ [17, 9, 18, 19, 20, 21, 7, 22, 10, 23, 24, 25, 26, 27, 28, 12, 29, 52, 53, 54, 55] (by decide +kernel) (by decide +kernel)
set_option maxRecDepth 20000 in
theorem gX5_spellInto_X6_append : GoodIn wsX5_spellInto (wsV RX5 58 RX6 yX6_append wsX6_append) := goodIn_app (goodIn_of _ (by decide +kernel)) ggX5_spellInto_X6_append
set_option maxRecDepth 20000 in
theorem ggX5_spellInto_X7_take : GoodIn wsX5_spellInto wsX7_take := goodIn_r _ [34, 35, 36, 37, 38, 39, 7, 40, 9, 18, 41, 42, 43, 44, 45, 46, 47, 48, 23, 10, 56, 57, 52, 53, 54, 55] (by decide +kernel) (by decide +kernel)
set_option maxRecDepth 20000 in
theorem gX5_spellInto_X7_take : GoodIn wsX5_spellInto (wsV RX5 61 RX7 yX7_take wsX7_take) := goodIn_app (goodIn_of _ (by decide +kernel)) ggX5_spellInto_X7_take
theorem dX5_spellInto_0 : decode cX5_spellInto 0 = .ok (.aload_n 0, 1) := by decide +kernel
theorem dX5_spellInto_1 : decode cX5_spellInto 1 = .ok (.getfield 18, 3) := by decide +kernel
theorem dX5_spellInto_4 : decode cX5_spellInto 4 = .ok (.invokevirtual 55, 3) := by decide +kernel
theorem dX5_spellInto_7 : decode cX5_spellInto 7 = .ok (.iconst 0, 1) := by decide +kernel
theorem dX5_spellInto_8 : decode cX5_spellInto 8 = .ok (.istore_n 2, 1) := by decide +kernel
theorem dX5_spellInto_9 : decode cX5_spellInto 9 = .ok (.iload_n 2, 1) := by decide +kernel
theorem dX5_spellInto_10 : decode cX5_spellInto 10 = .ok (.aload_n 0, 1) := by decide +kernel
theorem dX5_spellInto_11 : decode cX5_spellInto 11 = .ok (.getfield 22, 3) := by decide +kernel
theorem dX5_spellInto_14 : decode cX5_spellInto 14 = .ok (.if_icmp .ge 62, 3) := by decide +kernel
theorem dX5_spellInto_17 : decode cX5_spellInto 17 = .ok (.aload_n 0, 1) := by decide +kernel
theorem dX5_spellInto_18 : decode cX5_spellInto 18 = .ok (.getfield 9, 3) := by decide +kernel
theorem dX5_spellInto_21 : decode cX5_spellInto 21 = .ok (.iload_n 2, 1) := by decide +kernel
theorem dX5_spellInto_22 : decode cX5_spellInto 22 = .ok (.caload, 1) := by decide +kernel
theorem dX5_spellInto_23 : decode cX5_spellInto 23 = .ok (.bipush 44, 2) := by decide +kernel
theorem dX5_spellInto_25 : decode cX5_spellInto 25 = .ok (.if_icmp .eq 22, 3) := by decide +kernel
theorem dX5_spellInto_28 : decode cX5_spellInto 28 = .ok (.aload_n 0, 1) := by decide +kernel
theorem dX5_spellInto_29 : decode cX5_spellInto 29 = .ok (.getfield 18, 3) := by decide +kernel
theorem dX5_spellInto_32 : decode cX5_spellInto 32 = .ok (.aload_n 0, 1) := by decide +kernel
theorem dX5_spellInto_33 : decode cX5_spellInto 33 = .ok (.getfield 9, 3) := by decide +kernel
theorem dX5_spellInto_36 : decode cX5_spellInto 36 = .ok (.iload_n 2, 1) := by decide +kernel
theorem dX5_spellInto_37 : decode cX5_spellInto 37 = .ok (.caload, 1) := by decide +kernel
theorem dX5_spellInto_38 : decode cX5_spellInto 38 = .ok (.invokestatic 40, 3) := by decide +kernel
theorem dX5_spellInto_41 : decode cX5_spellInto 41 = .ok (.invokevirtual 58, 3) := by decide +kernel
theorem dX5_spellInto_44 : decode cX5_spellInto 44 = .ok (.goto 26, 3) := by decide +kernel
theorem dX5_spellInto_47 : decode cX5_spellInto 47 = .ok (.aload_n 1, 1) := by decide +kernel
theorem dX5_spellInto_48 : decode cX5_spellInto 48 = .ok (.aload_n 0, 1) := by decide +kernel
theorem dX5_spellInto_49 : decode cX5_spellInto 49 = .ok (.getfield 18, 3) := by decide +kernel
theorem dX5_spellInto_52 : decode cX5_spellInto 52 = .ok (.invokevirtual 61, 3) := by decide +kernel
theorem dX5_spellInto_55 : decode cX5_spellInto 55 = .ok (.ifCond .eq 13, 3) := by decide +kernel
theorem dX5_spellInto_58 : decode cX5_spellInto 58 = .ok (.aload_n 0, 1) := by decide +kernel
theorem dX5_spellInto_59 : decode cX5_spellInto 59 = .ok (.getfield 18, 3) := by decide +kernel
theorem dX5_spellInto_62 : decode cX5_spellInto 62 = .ok (.invokevirtual 55, 3) := by decide +kernel
theorem dX5_spellInto_65 : decode cX5_spellInto 65 = .ok (.goto 5, 3) := by decide +kernel
theorem dX5_spellInto_68 : decode cX5_spellInto 68 = .ok (.iconst 0, 1) := by decide +kernel
theorem dX5_spellInto_69 : decode cX5_spellInto 69 = .ok (.ireturn, 1) := by decide +kernel
theorem dX5_spellInto_70 : decode cX5_spellInto 70 = .ok (.iinc 2 1, 3) := by decide +kernel
theorem dX5_spellInto_73 : decode cX5_spellInto 73 = .ok (.goto (-64), 3) := by decide +kernel
theorem dX5_spellInto_76 : decode cX5_spellInto 76 = .ok (.aload_n 1, 1) := by decide +kernel
theorem dX5_spellInto_77 : decode cX5_spellInto 77 = .ok (.aload_n 0, 1) := by decide +kernel
theorem dX5_spellInto_78 : decode cX5_spellInto 78 = .ok (.getfield 18, 3) := by decide +kernel
theorem dX5_spellInto_81 : decode cX5_spellInto 81 = .ok (.invokevirtual 61, 3) := by decide +kernel
theorem dX5_spellInto_84 : decode cX5_spellInto 84 = .ok (.ireturn, 1) := by decide +kernel
theorem dX6_init_0 : decode cX6_init 0 = .ok (.aload_n 0, 1) := by decide +kernel
theorem dX6_init_1 : decode cX6_init 1 = .ok (.invokespecial 3, 3) := by decide +kernel
theorem dX6_init_4 : decode cX6_init 4 = .ok (.aload_n 0, 1) := by decide +kernel
theorem dX6_init_5 : decode cX6_init 5 = .ok (.bipush 15, 2) := by decide +kernel
theorem dX6_init_7 : decode cX6_init 7 = .ok (.newarray .int, 2) := by decide +kernel
theorem dX6_init_9 : decode cX6_init 9 = .ok (.putfield 9, 3) := by decide +kernel
theorem dX6_init_12 : decode cX6_init 12 = .ok (.aload_n 0, 1) := by decide +kernel
theorem dX6_init_13 : decode cX6_init 13 = .ok (.bipush 29, 2) := by decide +kernel
theorem dX6_init_15 : decode cX6_init 15 = .ok (.newarray .int, 2) := by decide +kernel
theorem dX6_init_17 : decode cX6_init 17 = .ok (.putfield 15, 3) := by decide +kernel
theorem dX6_init_20 : decode cX6_init 20 = .ok (.aload_n 0, 1) := by decide +kernel
theorem dX6_init_21 : decode cX6_init 21 = .ok (.iconst 0, 1) := by decide +kernel
theorem dX6_init_22 : decode cX6_init 22 = .ok (.putfield 18, 3) := by decide +kernel
theorem dX6_init_25 : decode cX6_init 25 = .ok (.aload_n 0, 1) := by decide +kernel
theorem dX6_init_26 : decode cX6_init 26 = .ok (.iconst 0, 1) := by decide +kernel
theorem dX6_init_27 : decode cX6_init 27 = .ok (.putfield 22, 3) := by decide +kernel
theorem dX6_init_30 : decode cX6_init 30 = .ok (.return_, 1) := by decide +kernel
theorem dX6_clear_0 : decode cX6_clear 0 = .ok (.aload_n 0, 1) := by decide +kernel
theorem dX6_clear_1 : decode cX6_clear 1 = .ok (.iconst 0, 1) := by decide +kernel
theorem dX6_clear_2 : decode cX6_clear 2 = .ok (.putfield 18, 3) := by decide +kernel
theorem dX6_clear_5 : decode cX6_clear 5 = .ok (.aload_n 0, 1) := by decide +kernel
theorem dX6_clear_6 : decode cX6_clear 6 = .ok (.iconst 0, 1) := by decide +kernel
theorem dX6_clear_7 : decode cX6_clear 7 = .ok (.putfield 22, 3) := by decide +kernel
theorem dX6_clear_10 : decode cX6_clear 10 = .ok (.return_, 1) := by decide +kernel
set_option maxRecDepth 20000 in
theorem ggX6_append_X6_addPart : GoodIn wsX6_append wsX6_addPart := goodIn_r _ [7, 8, 9, 10, 11, 12, 6, 13, 17, 18, 19, 20] (by decide +kernel) (by decide +kernel)
set_option maxRecDepth 20000 in
theorem gX6_append_X6_addPart : GoodIn wsX6_append (wsV RX6 25 RX6 yX6_addPart wsX6_addPart) := goodIn_app (goodIn_of _ (by decide +kernel)) ggX6_append_X6_addPart
set_option maxRecDepth 20000 in
theorem ggX6_append_X8_joinPart : GoodIn wsX6_append wsX8_joinPart := goodIn_r _ [16] (by decide +kernel) (by decide +kernel)
set_option maxRecDepth 20000 in
theorem gX6_append_X8_joinPart_n29 : GoodIn wsX6_append (wsX8_joinPart) := ggX6_append_X8_joinPart
theorem dX6_append_0 : decode cX6_append 0 = .ok (.aload_n 0, 1) := by decide +kernel
theorem dX6_append_1 : decode cX6_append 1 = .ok (.getfield 18, 3) := by decide +kernel
theorem dX6_append_4 : decode cX6_append 4 = .ok (.bipush 15, 2) := by decide +kernel
theorem dX6_append_6 : decode cX6_append 6 = .ok (.if_icmp .lt 4, 3) := by decide +kernel
theorem dX6_append_9 : decode cX6_append 9 = .ok (.return_, 1) := by decide +kernel
theorem dX6_append_10 : decode cX6_append 10 = .ok (.aload_n 0, 1) := by decide +kernel
theorem dX6_append_11 : decode cX6_append 11 = .ok (.iload_n 1, 1) := by decide +kernel
theorem dX6_append_12 : decode cX6_append 12 = .ok (.invokevirtual 25, 3) := by decide +kernel
theorem dX6_append_15 : decode cX6_append 15 = .ok (.aload_n 0, 1) := by decide +kernel
theorem dX6_append_16 : decode cX6_append 16 = .ok (.getfield 18, 3) := by decide +kernel
theorem dX6_append_19 : decode cX6_append 19 = .ok (.ifCond .le 22, 3) := by decide +kernel
theorem dX6_append_22 : decode cX6_append 22 = .ok (.aload_n 0, 1) := by decide +kernel
theorem dX6_append_23 : decode cX6_append 23 = .ok (.aload_n 0, 1) := by decide +kernel
theorem dX6_append_24 : decode cX6_append 24 = .ok (.getfield 9, 3) := by decide +kernel
theorem dX6_append_27 : decode cX6_append 27 = .ok (.aload_n 0, 1) := by decide +kernel
theorem dX6_append_28 : decode cX6_append 28 = .ok (.getfield 18, 3) := by decide +kernel
theorem dX6_append_31 : decode cX6_append 31 = .ok (.iconst 1, 1) := by decide +kernel
theorem dX6_append_32 : decode cX6_append 32 = .ok (.isub, 1) := by decide +kernel
theorem dX6_append_33 : decode cX6_append 33 = .ok (.iaload, 1) := by decide +kernel
theorem dX6_append_34 : decode cX6_append 34 = .ok (.iload_n 1, 1) := by decide +kernel
theorem dX6_append_35 : decode cX6_append 35 = .ok (.invokestatic 29, 3) := by decide +kernel
theorem dX6_append_38 : decode cX6_append 38 = .ok (.invokevirtual 25, 3) := by decide +kernel
theorem dX6_append_41 : decode cX6_append 41 = .ok (.aload_n 0, 1) := by decide +kernel
theorem dX6_append_42 : decode cX6_append 42 = .ok (.getfield 9, 3) := by decide +kernel
theorem dX6_append_45 : decode cX6_append 45 = .ok (.aload_n 0, 1) := by decide +kernel
theorem dX6_append_46 : decode cX6_append 46 = .ok (.getfield 18, 3) := by decide +kernel
theorem dX6_append_49 : decode cX6_append 49 = .ok (.iload_n 1, 1) := by decide +kernel
theorem dX6_append_50 : decode cX6_append 50 = .ok (.iastore, 1) := by decide +kernel
theorem dX6_append_51 : decode cX6_append 51 = .ok (.aload_n 0, 1) := by decide +kernel
theorem dX6_append_52 : decode cX6_append 52 = .ok (.dup, 1) := by decide +kernel
theorem dX6_append_53 : decode cX6_append 53 = .ok (.getfield 18, 3) := by decide +kernel
theorem dX6_append_56 : decode cX6_append 56 = .ok (.iconst 1, 1) := by decide +kernel
theorem dX6_append_57 : decode cX6_append 57 = .ok (.iadd, 1) := by decide +kernel
theorem dX6_append_58 : decode cX6_append 58 = .ok (.putfield 18, 3) := by decide +kernel
theorem dX6_append_61 : decode cX6_append 61 = .ok (.return_, 1) := by decide +kernel
set_option maxRecDepth 20000 in
theorem ggX6_addPart_X6_has : GoodIn wsX6_addPart wsX6_has := goodIn_r _ [7, 1, 2, 8, 9, 10, 11] (by decide +kernel) (by decide +kernel)
set_option maxRecDepth 20000 in
theorem gX6_addPart_X6_has : GoodIn wsX6_addPart (wsV RX6 33 RX6 yX6_has wsX6_has) := goodIn_app (goodIn_of _ (by decide +kernel)) ggX6_addPart_X6_has
theorem dX6_addPart_0 : decode cX6_addPart 0 = .ok (.aload_n 0, 1) := by decide +kernel
theorem dX6_addPart_1 : decode cX6_addPart 1 = .ok (.getfield 22, 3) := by decide +kernel
theorem dX6_addPart_4 : decode cX6_addPart 4 = .ok (.bipush 29, 2) := by decide +kernel
theorem dX6_addPart_6 : decode cX6_addPart 6 = .ok (.if_icmp .ge 31, 3) := by decide +kernel
theorem dX6_addPart_9 : decode cX6_addPart 9 = .ok (.aload_n 0, 1) := by decide +kernel
theorem dX6_addPart_10 : decode cX6_addPart 10 = .ok (.iload_n 1, 1) := by decide +kernel
theorem dX6_addPart_11 : decode cX6_addPart 11 = .ok (.invokevirtual 33, 3) := by decide +kernel
theorem dX6_addPart_14 : decode cX6_addPart 14 = .ok (.ifCond .ne 23, 3) := by decide +kernel
theorem dX6_addPart_17 : decode cX6_addPart 17 = .ok (.aload_n 0, 1) := by decide +kernel
theorem dX6_addPart_18 : decode cX6_addPart 18 = .ok (.getfield 15, 3) := by decide +kernel
theorem dX6_addPart_21 : decode cX6_addPart 21 = .ok (.aload_n 0, 1) := by decide +kernel
theorem dX6_addPart_22 : decode cX6_addPart 22 = .ok (.getfield 22, 3) := by decide +kernel
theorem dX6_addPart_25 : decode cX6_addPart 25 = .ok (.iload_n 1, 1) := by decide +kernel
theorem dX6_addPart_26 : decode cX6_addPart 26 = .ok (.iastore, 1) := by decide +kernel
theorem dX6_addPart_27 : decode cX6_addPart 27 = .ok (.aload_n 0, 1) := by decide +kernel
theorem dX6_addPart_28 : decode cX6_addPart 28 = .ok (.dup, 1) := by decide +kernel
theorem dX6_addPart_29 : decode cX6_addPart 29 = .ok (.getfield 22, 3) := by decide +kernel
theorem dX6_addPart_32 : decode cX6_addPart 32 = .ok (.iconst 1, 1) := by decide +kernel
theorem dX6_addPart_33 : decode cX6_addPart 33 = .ok (.iadd, 1) := by decide +kernel
theorem dX6_addPart_34 : decode cX6_addPart 34 = .ok (.putfield 22, 3) := by decide +kernel
theorem dX6_addPart_37 : decode cX6_addPart 37 = .ok (.return_, 1) := by decide +kernel
theorem dX6_has_0 : decode cX6_has 0 = .ok (.iconst 0, 1) := by decide +kernel
theorem dX6_has_1 : decode cX6_has 1 = .ok (.istore_n 2, 1) := by decide +kernel
theorem dX6_has_2 : decode cX6_has 2 = .ok (.iload_n 2, 1) := by decide +kernel
theorem dX6_has_3 : decode cX6_has 3 = .ok (.aload_n 0, 1) := by decide +kernel
theorem dX6_has_4 : decode cX6_has 4 = .ok (.getfield 22, 3) := by decide +kernel
theorem dX6_has_7 : decode cX6_has 7 = .ok (.if_icmp .ge 21, 3) := by decide +kernel
theorem dX6_has_10 : decode cX6_has 10 = .ok (.aload_n 0, 1) := by decide +kernel
theorem dX6_has_11 : decode cX6_has 11 = .ok (.getfield 15, 3) := by decide +kernel
theorem dX6_has_14 : decode cX6_has 14 = .ok (.iload_n 2, 1) := by decide +kernel
theorem dX6_has_15 : decode cX6_has 15 = .ok (.iaload, 1) := by decide +kernel
theorem dX6_has_16 : decode cX6_has 16 = .ok (.iload_n 1, 1) := by decide +kernel
theorem dX6_has_17 : decode cX6_has 17 = .ok (.if_icmp .ne 5, 3) := by decide +kernel
theorem dX6_has_20 : decode cX6_has 20 = .ok (.iconst 1, 1) := by decide +kernel
theorem dX6_has_21 : decode cX6_has 21 = .ok (.ireturn, 1) := by decide +kernel
theorem dX6_has_22 : decode cX6_has 22 = .ok (.iinc 2 1, 3) := by decide +kernel
theorem dX6_has_25 : decode cX6_has 25 = .ok (.goto (-23), 3) := by decide +kernel
theorem dX6_has_28 : decode cX6_has 28 = .ok (.iconst 0, 1) := by decide +kernel
theorem dX6_has_29 : decode cX6_has 29 = .ok (.ireturn, 1) := by decide +kernel
theorem dX6_isSpelledAs_0 : decode cX6_isSpelledAs 0 = .ok (.aload_n 0, 1) := by decide +kernel
theorem dX6_isSpelledAs_1 : decode cX6_isSpelledAs 1 = .ok (.getfield 18, 3) := by decide +kernel
theorem dX6_isSpelledAs_4 : decode cX6_isSpelledAs 4 = .ok (.aload_n 1, 1) := by decide +kernel
theorem dX6_isSpelledAs_5 : decode cX6_isSpelledAs 5 = .ok (.getfield 18, 3) := by decide +kernel
theorem dX6_isSpelledAs_8 : decode cX6_isSpelledAs 8 = .ok (.if_icmp .eq 5, 3) := by decide +kernel
theorem dX6_isSpelledAs_11 : decode cX6_isSpelledAs 11 = .ok (.iconst 0, 1) := by decide +kernel
theorem dX6_isSpelledAs_12 : decode cX6_isSpelledAs 12 = .ok (.ireturn, 1) := by decide +kernel
theorem dX6_isSpelledAs_13 : decode cX6_isSpelledAs 13 = .ok (.iconst 0, 1) := by decide +kernel
theorem dX6_isSpelledAs_14 : decode cX6_isSpelledAs 14 = .ok (.istore_n 2, 1) := by decide +kernel
theorem dX6_isSpelledAs_15 : decode cX6_isSpelledAs 15 = .ok (.iload_n 2, 1) := by decide +kernel
theorem dX6_isSpelledAs_16 : decode cX6_isSpelledAs 16 = .ok (.aload_n 0, 1) := by decide +kernel
theorem dX6_isSpelledAs_17 : decode cX6_isSpelledAs 17 = .ok (.getfield 18, 3) := by decide +kernel
theorem dX6_isSpelledAs_20 : decode cX6_isSpelledAs 20 = .ok (.if_icmp .ge 26, 3) := by decide +kernel
theorem dX6_isSpelledAs_23 : decode cX6_isSpelledAs 23 = .ok (.aload_n 0, 1) := by decide +kernel
theorem dX6_isSpelledAs_24 : decode cX6_isSpelledAs 24 = .ok (.getfield 9, 3) := by decide +kernel
theorem dX6_isSpelledAs_27 : decode cX6_isSpelledAs 27 = .ok (.iload_n 2, 1) := by decide +kernel
theorem dX6_isSpelledAs_28 : decode cX6_isSpelledAs 28 = .ok (.iaload, 1) := by decide +kernel
theorem dX6_isSpelledAs_29 : decode cX6_isSpelledAs 29 = .ok (.aload_n 1, 1) := by decide +kernel
theorem dX6_isSpelledAs_30 : decode cX6_isSpelledAs 30 = .ok (.getfield 9, 3) := by decide +kernel
theorem dX6_isSpelledAs_33 : decode cX6_isSpelledAs 33 = .ok (.iload_n 2, 1) := by decide +kernel
theorem dX6_isSpelledAs_34 : decode cX6_isSpelledAs 34 = .ok (.iaload, 1) := by decide +kernel
theorem dX6_isSpelledAs_35 : decode cX6_isSpelledAs 35 = .ok (.if_icmp .eq 5, 3) := by decide +kernel
theorem dX6_isSpelledAs_38 : decode cX6_isSpelledAs 38 = .ok (.iconst 0, 1) := by decide +kernel
theorem dX6_isSpelledAs_39 : decode cX6_isSpelledAs 39 = .ok (.ireturn, 1) := by decide +kernel
theorem dX6_isSpelledAs_40 : decode cX6_isSpelledAs 40 = .ok (.iinc 2 1, 3) := by decide +kernel
theorem dX6_isSpelledAs_43 : decode cX6_isSpelledAs 43 = .ok (.goto (-28), 3) := by decide +kernel
theorem dX6_isSpelledAs_46 : decode cX6_isSpelledAs 46 = .ok (.iconst 1, 1) := by decide +kernel
theorem dX6_isSpelledAs_47 : decode cX6_isSpelledAs 47 = .ok (.ireturn, 1) := by decide +kernel
theorem dX6_copyFrom_0 : decode cX6_copyFrom 0 = .ok (.aload_n 1, 1) := by decide +kernel
theorem dX6_copyFrom_1 : decode cX6_copyFrom 1 = .ok (.getfield 9, 3) := by decide +kernel
theorem dX6_copyFrom_4 : decode cX6_copyFrom 4 = .ok (.iconst 0, 1) := by decide +kernel
theorem dX6_copyFrom_5 : decode cX6_copyFrom 5 = .ok (.aload_n 0, 1) := by decide +kernel
theorem dX6_copyFrom_6 : decode cX6_copyFrom 6 = .ok (.getfield 9, 3) := by decide +kernel
theorem dX6_copyFrom_9 : decode cX6_copyFrom 9 = .ok (.iconst 0, 1) := by decide +kernel
theorem dX6_copyFrom_10 : decode cX6_copyFrom 10 = .ok (.bipush 15, 2) := by decide +kernel
theorem dX6_copyFrom_12 : decode cX6_copyFrom 12 = .ok (.invokestatic 37, 3) := by decide +kernel
theorem dX6_copyFrom_15 : decode cX6_copyFrom 15 = .ok (.aload_n 1, 1) := by decide +kernel
theorem dX6_copyFrom_16 : decode cX6_copyFrom 16 = .ok (.getfield 15, 3) := by decide +kernel
theorem dX6_copyFrom_19 : decode cX6_copyFrom 19 = .ok (.iconst 0, 1) := by decide +kernel
theorem dX6_copyFrom_20 : decode cX6_copyFrom 20 = .ok (.aload_n 0, 1) := by decide +kernel
theorem dX6_copyFrom_21 : decode cX6_copyFrom 21 = .ok (.getfield 15, 3) := by decide +kernel
theorem dX6_copyFrom_24 : decode cX6_copyFrom 24 = .ok (.iconst 0, 1) := by decide +kernel
theorem dX6_copyFrom_25 : decode cX6_copyFrom 25 = .ok (.bipush 29, 2) := by decide +kernel
theorem dX6_copyFrom_27 : decode cX6_copyFrom 27 = .ok (.invokestatic 37, 3) := by decide +kernel
theorem dX6_copyFrom_30 : decode cX6_copyFrom 30 = .ok (.aload_n 0, 1) := by decide +kernel
theorem dX6_copyFrom_31 : decode cX6_copyFrom 31 = .ok (.aload_n 1, 1) := by decide +kernel
theorem dX6_copyFrom_32 : decode cX6_copyFrom 32 = .ok (.getfield 18, 3) := by decide +kernel
theorem dX6_copyFrom_35 : decode cX6_copyFrom 35 = .ok (.putfield 18, 3) := by decide +kernel
theorem dX6_copyFrom_38 : decode cX6_copyFrom 38 = .ok (.aload_n 0, 1) := by decide +kernel
theorem dX6_copyFrom_39 : decode cX6_copyFrom 39 = .ok (.aload_n 1, 1) := by decide +kernel
theorem dX6_copyFrom_40 : decode cX6_copyFrom 40 = .ok (.getfield 22, 3) := by decide +kernel
theorem dX6_copyFrom_43 : decode cX6_copyFrom 43 = .ok (.putfield 22, 3) := by decide +kernel
theorem dX6_copyFrom_46 : decode cX6_copyFrom 46 = .ok (.return_, 1) := by decide +kernel
set_option maxRecDepth 20000 in
theorem ggX7_init_X6_init : GoodIn wsX7_init wsX6_init := goodIn_r _ [11, 12, 2, 3, 13, 14, 15, 16, 17, 20, 21, 22, 23] (by decide +kernel) (by decide +kernel)
set_option maxRecDepth 20000 in
theorem gX7_init_X6_init : GoodIn wsX7_init (wsX6_init) := ggX7_init_X6_init
theorem dX7_init_0 : decode cX7_init 0 = .ok (.aload_n 0, 1) := by decide +kernel
theorem dX7_init_1 : decode cX7_init 1 = .ok (.invokespecial 3, 3) := by decide +kernel
theorem dX7_init_4 : decode cX7_init 4 = .ok (.aload_n 0, 1) := by decide +kernel
theorem dX7_init_5 : decode cX7_init 5 = .ok (.bipush 20, 2) := by decide +kernel
theorem dX7_init_7 : decode cX7_init 7 = .ok (.anewarray 9, 3) := by decide +kernel
theorem dX7_init_10 : decode cX7_init 10 = .ok (.putfield 11, 3) := by decide +kernel
theorem dX7_init_13 : decode cX7_init 13 = .ok (.iconst 0, 1) := by decide +kernel
theorem dX7_init_14 : decode cX7_init 14 = .ok (.istore_n 1, 1) := by decide +kernel
theorem dX7_init_15 : decode cX7_init 15 = .ok (.iload_n 1, 1) := by decide +kernel
theorem dX7_init_16 : decode cX7_init 16 = .ok (.bipush 20, 2) := by decide +kernel
theorem dX7_init_18 : decode cX7_init 18 = .ok (.if_icmp .ge 22, 3) := by decide +kernel
theorem dX7_init_21 : decode cX7_init 21 = .ok (.aload_n 0, 1) := by decide +kernel
theorem dX7_init_22 : decode cX7_init 22 = .ok (.getfield 11, 3) := by decide +kernel
theorem dX7_init_25 : decode cX7_init 25 = .ok (.iload_n 1, 1) := by decide +kernel
theorem dX7_init_26 : decode cX7_init 26 = .ok (.new 9, 3) := by decide +kernel
theorem dX7_init_29 : decode cX7_init 29 = .ok (.dup, 1) := by decide +kernel
theorem dX7_init_30 : decode cX7_init 30 = .ok (.invokespecial 17, 3) := by decide +kernel
theorem dX7_init_33 : decode cX7_init 33 = .ok (.aastore, 1) := by decide +kernel
theorem dX7_init_34 : decode cX7_init 34 = .ok (.iinc 1 1, 3) := by decide +kernel
theorem dX7_init_37 : decode cX7_init 37 = .ok (.goto (-22), 3) := by decide +kernel
theorem dX7_init_40 : decode cX7_init 40 = .ok (.aload_n 0, 1) := by decide +kernel
theorem dX7_init_41 : decode cX7_init 41 = .ok (.iconst 0, 1) := by decide +kernel
theorem dX7_init_42 : decode cX7_init 42 = .ok (.putfield 18, 3) := by decide +kernel
theorem dX7_init_45 : decode cX7_init 45 = .ok (.return_, 1) := by decide +kernel
theorem dX7_at_0 : decode cX7_at 0 = .ok (.iload_n 1, 1) := by decide +kernel
theorem dX7_at_1 : decode cX7_at 1 = .ok (.ifCond .lt 20, 3) := by decide +kernel
theorem dX7_at_4 : decode cX7_at 4 = .ok (.iload_n 1, 1) := by decide +kernel
theorem dX7_at_5 : decode cX7_at 5 = .ok (.aload_n 0, 1) := by decide +kernel
theorem dX7_at_6 : decode cX7_at 6 = .ok (.getfield 18, 3) := by decide +kernel
theorem dX7_at_9 : decode cX7_at 9 = .ok (.if_icmp .ge 12, 3) := by decide +kernel
theorem dX7_at_12 : decode cX7_at 12 = .ok (.aload_n 0, 1) := by decide +kernel
theorem dX7_at_13 : decode cX7_at 13 = .ok (.getfield 11, 3) := by decide +kernel
theorem dX7_at_16 : decode cX7_at 16 = .ok (.iload_n 1, 1) := by decide +kernel
theorem dX7_at_17 : decode cX7_at 17 = .ok (.aaload, 1) := by decide +kernel
theorem dX7_at_18 : decode cX7_at 18 = .ok (.goto 4, 3) := by decide +kernel
theorem dX7_at_21 : decode cX7_at 21 = .ok (.aconst_null, 1) := by decide +kernel
theorem dX7_at_22 : decode cX7_at 22 = .ok (.areturn, 1) := by decide +kernel
set_option maxRecDepth 20000 in
theorem ggX7_take_X6_isSpelledAs : GoodIn wsX7_take wsX6_isSpelledAs := goodIn_r _ [7, 8, 9, 22, 23, 24, 25] (by decide +kernel) (by decide +kernel)
set_option maxRecDepth 20000 in
theorem gX7_take_X6_isSpelledAs : GoodIn wsX7_take (wsV RX7 22 RX6 yX6_isSpelledAs wsX6_isSpelledAs) := goodIn_app (goodIn_of _ (by decide +kernel)) ggX7_take_X6_isSpelledAs
set_option maxRecDepth 20000 in
theorem ggX7_take_X6_copyFrom : GoodIn wsX7_take wsX6_copyFrom := goodIn_r _ [13, 9, 14, 15, 16, 17, 18, 8, 19, 22, 23, 24, 25] (by decide +kernel) (by decide +kernel)
set_option maxRecDepth 20000 in
theorem gX7_take_X6_copyFrom : GoodIn wsX7_take (wsV RX7 26 RX6 yX6_copyFrom wsX6_copyFrom) := goodIn_app (goodIn_of _ (by decide +kernel)) ggX7_take_X6_copyFrom
theorem dX7_take_0 : decode cX7_take 0 = .ok (.iconst 0, 1) := by decide +kernel
theorem dX7_take_1 : decode cX7_take 1 = .ok (.istore_n 2, 1) := by decide +kernel
theorem dX7_take_2 : decode cX7_take 2 = .ok (.iload_n 2, 1) := by decide +kernel
theorem dX7_take_3 : decode cX7_take 3 = .ok (.aload_n 0, 1) := by decide +kernel
theorem dX7_take_4 : decode cX7_take 4 = .ok (.getfield 18, 3) := by decide +kernel
theorem dX7_take_7 : decode cX7_take 7 = .ok (.if_icmp .ge 24, 3) := by decide +kernel
theorem dX7_take_10 : decode cX7_take 10 = .ok (.aload_n 0, 1) := by decide +kernel
theorem dX7_take_11 : decode cX7_take 11 = .ok (.getfield 11, 3) := by decide +kernel
theorem dX7_take_14 : decode cX7_take 14 = .ok (.iload_n 2, 1) := by decide +kernel
theorem dX7_take_15 : decode cX7_take 15 = .ok (.aaload, 1) := by decide +kernel
theorem dX7_take_16 : decode cX7_take 16 = .ok (.aload_n 1, 1) := by decide +kernel
theorem dX7_take_17 : decode cX7_take 17 = .ok (.invokevirtual 22, 3) := by decide +kernel
theorem dX7_take_20 : decode cX7_take 20 = .ok (.ifCond .eq 5, 3) := by decide +kernel
theorem dX7_take_23 : decode cX7_take 23 = .ok (.iconst 1, 1) := by decide +kernel
theorem dX7_take_24 : decode cX7_take 24 = .ok (.ireturn, 1) := by decide +kernel
theorem dX7_take_25 : decode cX7_take 25 = .ok (.iinc 2 1, 3) := by decide +kernel
theorem dX7_take_28 : decode cX7_take 28 = .ok (.goto (-26), 3) := by decide +kernel
theorem dX7_take_31 : decode cX7_take 31 = .ok (.aload_n 0, 1) := by decide +kernel
theorem dX7_take_32 : decode cX7_take 32 = .ok (.getfield 18, 3) := by decide +kernel
theorem dX7_take_35 : decode cX7_take 35 = .ok (.bipush 20, 2) := by decide +kernel
theorem dX7_take_37 : decode cX7_take 37 = .ok (.if_icmp .lt 5, 3) := by decide +kernel
theorem dX7_take_40 : decode cX7_take 40 = .ok (.iconst 0, 1) := by decide +kernel
theorem dX7_take_41 : decode cX7_take 41 = .ok (.ireturn, 1) := by decide +kernel
theorem dX7_take_42 : decode cX7_take 42 = .ok (.aload_n 0, 1) := by decide +kernel
theorem dX7_take_43 : decode cX7_take 43 = .ok (.getfield 11, 3) := by decide +kernel
theorem dX7_take_46 : decode cX7_take 46 = .ok (.aload_n 0, 1) := by decide +kernel
theorem dX7_take_47 : decode cX7_take 47 = .ok (.getfield 18, 3) := by decide +kernel
theorem dX7_take_50 : decode cX7_take 50 = .ok (.aaload, 1) := by decide +kernel
theorem dX7_take_51 : decode cX7_take 51 = .ok (.aload_n 1, 1) := by decide +kernel
theorem dX7_take_52 : decode cX7_take 52 = .ok (.invokevirtual 26, 3) := by decide +kernel
theorem dX7_take_55 : decode cX7_take 55 = .ok (.aload_n 0, 1) := by decide +kernel
theorem dX7_take_56 : decode cX7_take 56 = .ok (.dup, 1) := by decide +kernel
theorem dX7_take_57 : decode cX7_take 57 = .ok (.getfield 18, 3) := by decide +kernel
theorem dX7_take_60 : decode cX7_take 60 = .ok (.iconst 1, 1) := by decide +kernel
theorem dX7_take_61 : decode cX7_take 61 = .ok (.iadd, 1) := by decide +kernel
theorem dX7_take_62 : decode cX7_take 62 = .ok (.putfield 18, 3) := by decide +kernel
theorem dX7_take_65 : decode cX7_take 65 = .ok (.iconst 1, 1) := by decide +kernel
theorem dX7_take_66 : decode cX7_take 66 = .ok (.ireturn, 1) := by decide +kernel
set_option maxRecDepth 20000 in
theorem ggX7_drop_X6_copyFrom : GoodIn wsX7_drop wsX6_copyFrom := goodIn_r _ [7, 8, 9, 10, 11, 12, 13, 14, 15, 18, 19, 20, 21] (by decide +kernel) (by decide +kernel)
set_option maxRecDepth 20000 in
theorem gX7_drop_X6_copyFrom : GoodIn wsX7_drop (wsV RX7 26 RX6 yX6_copyFrom wsX6_copyFrom) := goodIn_app (goodIn_of _ (by decide +kernel)) ggX7_drop_X6_copyFrom
theorem dX7_drop_0 : decode cX7_drop 0 = .ok (.iload_n 1, 1) := by decide +kernel
theorem dX7_drop_1 : decode cX7_drop 1 = .ok (.ifCond .lt 11, 3) := by decide +kernel
theorem dX7_drop_4 : decode cX7_drop 4 = .ok (.iload_n 1, 1) := by decide +kernel
theorem dX7_drop_5 : decode cX7_drop 5 = .ok (.aload_n 0, 1) := by decide +kernel
theorem dX7_drop_6 : decode cX7_drop 6 = .ok (.getfield 18, 3) := by decide +kernel
theorem dX7_drop_9 : decode cX7_drop 9 = .ok (.if_icmp .lt 4, 3) := by decide +kernel
theorem dX7_drop_12 : decode cX7_drop 12 = .ok (.return_, 1) := by decide +kernel
theorem dX7_drop_13 : decode cX7_drop 13 = .ok (.iload_n 1, 1) := by decide +kernel
theorem dX7_drop_14 : decode cX7_drop 14 = .ok (.iconst 1, 1) := by decide +kernel
theorem dX7_drop_15 : decode cX7_drop 15 = .ok (.iadd, 1) := by decide +kernel
theorem dX7_drop_16 : decode cX7_drop 16 = .ok (.istore_n 2, 1) := by decide +kernel
theorem dX7_drop_17 : decode cX7_drop 17 = .ok (.iload_n 2, 1) := by decide +kernel
theorem dX7_drop_18 : decode cX7_drop 18 = .ok (.aload_n 0, 1) := by decide +kernel
theorem dX7_drop_19 : decode cX7_drop 19 = .ok (.getfield 18, 3) := by decide +kernel
theorem dX7_drop_22 : decode cX7_drop 22 = .ok (.if_icmp .ge 26, 3) := by decide +kernel
theorem dX7_drop_25 : decode cX7_drop 25 = .ok (.aload_n 0, 1) := by decide +kernel
theorem dX7_drop_26 : decode cX7_drop 26 = .ok (.getfield 11, 3) := by decide +kernel
theorem dX7_drop_29 : decode cX7_drop 29 = .ok (.iload_n 2, 1) := by decide +kernel
theorem dX7_drop_30 : decode cX7_drop 30 = .ok (.iconst 1, 1) := by decide +kernel
theorem dX7_drop_31 : decode cX7_drop 31 = .ok (.isub, 1) := by decide +kernel
theorem dX7_drop_32 : decode cX7_drop 32 = .ok (.aaload, 1) := by decide +kernel
theorem dX7_drop_33 : decode cX7_drop 33 = .ok (.aload_n 0, 1) := by decide +kernel
theorem dX7_drop_34 : decode cX7_drop 34 = .ok (.getfield 11, 3) := by decide +kernel
theorem dX7_drop_37 : decode cX7_drop 37 = .ok (.iload_n 2, 1) := by decide +kernel
theorem dX7_drop_38 : decode cX7_drop 38 = .ok (.aaload, 1) := by decide +kernel
theorem dX7_drop_39 : decode cX7_drop 39 = .ok (.invokevirtual 26, 3) := by decide +kernel
theorem dX7_drop_42 : decode cX7_drop 42 = .ok (.iinc 2 1, 3) := by decide +kernel
theorem dX7_drop_45 : decode cX7_drop 45 = .ok (.goto (-28), 3) := by decide +kernel
theorem dX7_drop_48 : decode cX7_drop 48 = .ok (.aload_n 0, 1) := by decide +kernel
theorem dX7_drop_49 : decode cX7_drop 49 = .ok (.dup, 1) := by decide +kernel
theorem dX7_drop_50 : decode cX7_drop 50 = .ok (.getfield 18, 3) := by decide +kernel
theorem dX7_drop_53 : decode cX7_drop 53 = .ok (.iconst 1, 1) := by decide +kernel
theorem dX7_drop_54 : decode cX7_drop 54 = .ok (.isub, 1) := by decide +kernel
theorem dX7_drop_55 : decode cX7_drop 55 = .ok (.putfield 18, 3) := by decide +kernel
theorem dX7_drop_58 : decode cX7_drop 58 = .ok (.return_, 1) := by decide +kernel
set_option maxRecDepth 20000 in
theorem ggX7_howManyHave_X6_has : GoodIn wsX7_howManyHave wsX6_has := goodIn_r _ [7, 8, 9, 12, 13, 14, 15] (by decide +kernel) (by decide +kernel)
set_option maxRecDepth 20000 in
theorem gX7_howManyHave_X6_has : GoodIn wsX7_howManyHave (wsV RX7 30 RX6 yX6_has wsX6_has) := goodIn_app (goodIn_of _ (by decide +kernel)) ggX7_howManyHave_X6_has
theorem dX7_howManyHave_0 : decode cX7_howManyHave 0 = .ok (.iconst 0, 1) := by decide +kernel
theorem dX7_howManyHave_1 : decode cX7_howManyHave 1 = .ok (.istore_n 2, 1) := by decide +kernel
theorem dX7_howManyHave_2 : decode cX7_howManyHave 2 = .ok (.iconst 0, 1) := by decide +kernel
theorem dX7_howManyHave_3 : decode cX7_howManyHave 3 = .ok (.istore_n 3, 1) := by decide +kernel
theorem dX7_howManyHave_4 : decode cX7_howManyHave 4 = .ok (.iload_n 3, 1) := by decide +kernel
theorem dX7_howManyHave_5 : decode cX7_howManyHave 5 = .ok (.aload_n 0, 1) := by decide +kernel
theorem dX7_howManyHave_6 : decode cX7_howManyHave 6 = .ok (.getfield 18, 3) := by decide +kernel
theorem dX7_howManyHave_9 : decode cX7_howManyHave 9 = .ok (.if_icmp .ge 25, 3) := by decide +kernel
theorem dX7_howManyHave_12 : decode cX7_howManyHave 12 = .ok (.aload_n 0, 1) := by decide +kernel
theorem dX7_howManyHave_13 : decode cX7_howManyHave 13 = .ok (.getfield 11, 3) := by decide +kernel
theorem dX7_howManyHave_16 : decode cX7_howManyHave 16 = .ok (.iload_n 3, 1) := by decide +kernel
theorem dX7_howManyHave_17 : decode cX7_howManyHave 17 = .ok (.aaload, 1) := by decide +kernel
theorem dX7_howManyHave_18 : decode cX7_howManyHave 18 = .ok (.iload_n 1, 1) := by decide +kernel
theorem dX7_howManyHave_19 : decode cX7_howManyHave 19 = .ok (.invokevirtual 30, 3) := by decide +kernel
theorem dX7_howManyHave_22 : decode cX7_howManyHave 22 = .ok (.ifCond .eq 6, 3) := by decide +kernel
theorem dX7_howManyHave_25 : decode cX7_howManyHave 25 = .ok (.iinc 2 1, 3) := by decide +kernel
theorem dX7_howManyHave_28 : decode cX7_howManyHave 28 = .ok (.iinc 3 1, 3) := by decide +kernel
theorem dX7_howManyHave_31 : decode cX7_howManyHave 31 = .ok (.goto (-27), 3) := by decide +kernel
theorem dX7_howManyHave_34 : decode cX7_howManyHave 34 = .ok (.iload_n 2, 1) := by decide +kernel
theorem dX7_howManyHave_35 : decode cX7_howManyHave 35 = .ok (.ireturn, 1) := by decide +kernel
set_option maxRecDepth 20000 in
theorem ggX7_copyFrom_X6_copyFrom : GoodIn wsX7_copyFrom wsX6_copyFrom := goodIn_r _ [7, 8, 9, 10, 11, 12, 13, 14, 15, 18, 19, 20, 21] (by decide +kernel) (by decide +kernel)
set_option maxRecDepth 20000 in
theorem gX7_copyFrom_X6_copyFrom : GoodIn wsX7_copyFrom (wsV RX7 26 RX6 yX6_copyFrom wsX6_copyFrom) := goodIn_app (goodIn_of _ (by decide +kernel)) ggX7_copyFrom_X6_copyFrom
theorem dX7_copyFrom_0 : decode cX7_copyFrom 0 = .ok (.iconst 0, 1) := by decide +kernel
theorem dX7_copyFrom_1 : decode cX7_copyFrom 1 = .ok (.istore_n 2, 1) := by decide +kernel
theorem dX7_copyFrom_2 : decode cX7_copyFrom 2 = .ok (.iload_n 2, 1) := by decide +kernel
theorem dX7_copyFrom_3 : decode cX7_copyFrom 3 = .ok (.aload_n 1, 1) := by decide +kernel
theorem dX7_copyFrom_4 : decode cX7_copyFrom 4 = .ok (.getfield 18, 3) := by decide +kernel
theorem dX7_copyFrom_7 : decode cX7_copyFrom 7 = .ok (.if_icmp .ge 24, 3) := by decide +kernel
theorem dX7_copyFrom_10 : decode cX7_copyFrom 10 = .ok (.aload_n 0, 1) := by decide +kernel
theorem dX7_copyFrom_11 : decode cX7_copyFrom 11 = .ok (.getfield 11, 3) := by decide +kernel
theorem dX7_copyFrom_14 : decode cX7_copyFrom 14 = .ok (.iload_n 2, 1) := by decide +kernel
theorem dX7_copyFrom_15 : decode cX7_copyFrom 15 = .ok (.aaload, 1) := by decide +kernel
theorem dX7_copyFrom_16 : decode cX7_copyFrom 16 = .ok (.aload_n 1, 1) := by decide +kernel
theorem dX7_copyFrom_17 : decode cX7_copyFrom 17 = .ok (.getfield 11, 3) := by decide +kernel
theorem dX7_copyFrom_20 : decode cX7_copyFrom 20 = .ok (.iload_n 2, 1) := by decide +kernel
theorem dX7_copyFrom_21 : decode cX7_copyFrom 21 = .ok (.aaload, 1) := by decide +kernel
theorem dX7_copyFrom_22 : decode cX7_copyFrom 22 = .ok (.invokevirtual 26, 3) := by decide +kernel
theorem dX7_copyFrom_25 : decode cX7_copyFrom 25 = .ok (.iinc 2 1, 3) := by decide +kernel
theorem dX7_copyFrom_28 : decode cX7_copyFrom 28 = .ok (.goto (-26), 3) := by decide +kernel
theorem dX7_copyFrom_31 : decode cX7_copyFrom 31 = .ok (.aload_n 0, 1) := by decide +kernel
theorem dX7_copyFrom_32 : decode cX7_copyFrom 32 = .ok (.aload_n 1, 1) := by decide +kernel
theorem dX7_copyFrom_33 : decode cX7_copyFrom 33 = .ok (.getfield 18, 3) := by decide +kernel
theorem dX7_copyFrom_36 : decode cX7_copyFrom 36 = .ok (.putfield 18, 3) := by decide +kernel
theorem dX7_copyFrom_39 : decode cX7_copyFrom 39 = .ok (.return_, 1) := by decide +kernel
