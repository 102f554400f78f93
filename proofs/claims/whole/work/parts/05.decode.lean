/-! decode rows and calls' words, printed -/
set_option maxRecDepth 20000 in
theorem ggX8_init_X4_init : GoodIn wsX8_init wsX4_init := goodIn_r _ [29, 30, 2, 3, 31, 32, 33, 34, 35, 36, 37, 38, 39, 40, 41, 42, 43, 44, 45, 46, 47, 48, 49, 50, 51, 52, 53, 54, 55, 56, 57, 58, 59, 60, 61, 62, 63, 64, 65, 66, 67, 127, 128, 101, 102, 103, 104, 105, 106, 107, 129, 130, 131, 132, 133, 134] (by decide +kernel) (by decide +kernel)
set_option maxRecDepth 20000 in
theorem gX8_init_X4_init : GoodIn wsX8_init (wsX4_init) := ggX8_init_X4_init
set_option maxRecDepth 20000 in
theorem ggX8_init_X0_init : GoodIn wsX8_init wsX0_init := goodIn_r _ [70, 71, 2, 3, 72, 73, 5, 6, 74, 75, 28, 29, 30, 31, 32, 33, 34, 35, 36, 37, 38, 39, 40, 41, 42, 43, 44, 45, 46, 47, 48, 49, 50, 51, 52, 53, 54, 55, 56, 57, 58, 59, 60, 61, 62, 63, 64, 65, 66, 67, 116, 117, 101, 102, 103, 104, 105, 106, 107, 127, 128, 129, 130, 131, 132, 133, 134] (by decide +kernel) (by decide +kernel)
set_option maxRecDepth 20000 in
theorem gX8_init_X0_init : GoodIn wsX8_init (wsX0_init) := ggX8_init_X0_init
set_option maxRecDepth 20000 in
theorem ggX8_init_X5_init : GoodIn wsX8_init wsX5_init := goodIn_r _ [78, 79, 2, 3, 80, 81, 82, 57, 58, 83, 84, 85, 61, 62, 63, 48, 64, 65, 66, 67, 118, 119, 120, 131, 132, 133, 134] (by decide +kernel) (by decide +kernel)
set_option maxRecDepth 20000 in
theorem gX8_init_X5_init : GoodIn wsX8_init (wsX5_init) := ggX8_init_X5_init
set_option maxRecDepth 20000 in
theorem ggX8_init_X3_init : GoodIn wsX8_init wsX3_init := goodIn_r _ [88, 89, 2, 3, 48, 90, 91, 92, 93, 94, 95, 121, 122, 123, 124, 125] (by decide +kernel) (by decide +kernel)
set_option maxRecDepth 20000 in
theorem gX8_init_X3_init : GoodIn wsX8_init (wsX3_init) := ggX8_init_X3_init
set_option maxRecDepth 20000 in
theorem ggX8_init_X2_init : GoodIn wsX8_init wsX2_init := goodIn_r _ [98, 99, 2, 3, 48, 100, 126] (by decide +kernel) (by decide +kernel)
set_option maxRecDepth 20000 in
theorem gX8_init_X2_init : GoodIn wsX8_init (wsX2_init) := ggX8_init_X2_init
theorem dX8_init_0 : decode cX8_init 0 = .ok (.aload_n 0, 1) := by decide +kernel
theorem dX8_init_1 : decode cX8_init 1 = .ok (.invokespecial 3, 3) := by decide +kernel
theorem dX8_init_4 : decode cX8_init 4 = .ok (.aload_n 0, 1) := by decide +kernel
theorem dX8_init_5 : decode cX8_init 5 = .ok (.new 9, 3) := by decide +kernel
theorem dX8_init_8 : decode cX8_init 8 = .ok (.dup, 1) := by decide +kernel
theorem dX8_init_9 : decode cX8_init 9 = .ok (.invokespecial 11, 3) := by decide +kernel
theorem dX8_init_12 : decode cX8_init 12 = .ok (.putfield 12, 3) := by decide +kernel
theorem dX8_init_15 : decode cX8_init 15 = .ok (.aload_n 0, 1) := by decide +kernel
theorem dX8_init_16 : decode cX8_init 16 = .ok (.new 9, 3) := by decide +kernel
theorem dX8_init_19 : decode cX8_init 19 = .ok (.dup, 1) := by decide +kernel
theorem dX8_init_20 : decode cX8_init 20 = .ok (.invokespecial 11, 3) := by decide +kernel
theorem dX8_init_23 : decode cX8_init 23 = .ok (.putfield 16, 3) := by decide +kernel
theorem dX8_init_26 : decode cX8_init 26 = .ok (.aload_n 0, 1) := by decide +kernel
theorem dX8_init_27 : decode cX8_init 27 = .ok (.new 9, 3) := by decide +kernel
theorem dX8_init_30 : decode cX8_init 30 = .ok (.dup, 1) := by decide +kernel
theorem dX8_init_31 : decode cX8_init 31 = .ok (.invokespecial 11, 3) := by decide +kernel
theorem dX8_init_34 : decode cX8_init 34 = .ok (.putfield 19, 3) := by decide +kernel
theorem dX8_init_37 : decode cX8_init 37 = .ok (.aload_n 0, 1) := by decide +kernel
theorem dX8_init_38 : decode cX8_init 38 = .ok (.new 22, 3) := by decide +kernel
theorem dX8_init_41 : decode cX8_init 41 = .ok (.dup, 1) := by decide +kernel
theorem dX8_init_42 : decode cX8_init 42 = .ok (.invokespecial 24, 3) := by decide +kernel
theorem dX8_init_45 : decode cX8_init 45 = .ok (.putfield 25, 3) := by decide +kernel
theorem dX8_init_48 : decode cX8_init 48 = .ok (.aload_n 0, 1) := by decide +kernel
theorem dX8_init_49 : decode cX8_init 49 = .ok (.new 29, 3) := by decide +kernel
theorem dX8_init_52 : decode cX8_init 52 = .ok (.dup, 1) := by decide +kernel
theorem dX8_init_53 : decode cX8_init 53 = .ok (.invokespecial 31, 3) := by decide +kernel
theorem dX8_init_56 : decode cX8_init 56 = .ok (.putfield 32, 3) := by decide +kernel
theorem dX8_init_59 : decode cX8_init 59 = .ok (.aload_n 0, 1) := by decide +kernel
theorem dX8_init_60 : decode cX8_init 60 = .ok (.new 36, 3) := by decide +kernel
theorem dX8_init_63 : decode cX8_init 63 = .ok (.dup, 1) := by decide +kernel
theorem dX8_init_64 : decode cX8_init 64 = .ok (.invokespecial 38, 3) := by decide +kernel
theorem dX8_init_67 : decode cX8_init 67 = .ok (.putfield 39, 3) := by decide +kernel
theorem dX8_init_70 : decode cX8_init 70 = .ok (.aload_n 0, 1) := by decide +kernel
theorem dX8_init_71 : decode cX8_init 71 = .ok (.new 43, 3) := by decide +kernel
theorem dX8_init_74 : decode cX8_init 74 = .ok (.dup, 1) := by decide +kernel
theorem dX8_init_75 : decode cX8_init 75 = .ok (.invokespecial 45, 3) := by decide +kernel
theorem dX8_init_78 : decode cX8_init 78 = .ok (.putfield 46, 3) := by decide +kernel
theorem dX8_init_81 : decode cX8_init 81 = .ok (.aload_n 0, 1) := by decide +kernel
theorem dX8_init_82 : decode cX8_init 82 = .ok (.iconst 0, 1) := by decide +kernel
theorem dX8_init_83 : decode cX8_init 83 = .ok (.putfield 50, 3) := by decide +kernel
theorem dX8_init_86 : decode cX8_init 86 = .ok (.return_, 1) := by decide +kernel
set_option maxRecDepth 20000 in
theorem ggX8_write_X5_faultAsWritten : GoodIn wsX8_write wsX5_faultAsWritten := goodIn_r _ [8, 9, 10, 11, 12, 7, 13, 14, 15, 16, 104, 105, 106] (by decide +kernel) (by decide +kernel)
set_option maxRecDepth 20000 in
theorem gX8_write_X5_faultAsWritten : GoodIn wsX8_write (wsV RX8 54 RX5 yX5_faultAsWritten wsX5_faultAsWritten) := goodIn_app (goodIn_of _ (by decide +kernel)) ggX8_write_X5_faultAsWritten
set_option maxRecDepth 20000 in
theorem ggX8_write_X0_remember : GoodIn wsX8_write wsX0_remember := goodIn_r _ [21, 22, 23, 24, 25, 26, 20, 27, 28, 29, 30, 31, 32, 33, 34, 35, 36, 37, 38, 39, 40, 41, 42, 43, 44, 45, 46, 47, 48, 49, 50, 51, 52, 53, 54, 55, 56, 57, 58, 59, 60, 61, 62, 63, 64, 65, 66, 67, 107, 108, 97, 98, 99, 100, 101, 102, 103, 109, 110, 111, 112, 113, 114, 115, 116] (by decide +kernel) (by decide +kernel)
set_option maxRecDepth 20000 in
theorem gX8_write_X0_remember : GoodIn wsX8_write (wsV RX8 58 RX0 yX0_remember wsX0_remember) := goodIn_app (goodIn_of _ (by decide +kernel)) ggX8_write_X0_remember
set_option maxRecDepth 20000 in
theorem ggX8_write_X5_practiseIn : GoodIn wsX8_write wsX5_practiseIn := goodIn_r _ [71, 9, 10, 72, 73, 74, 43, 75, 50, 76, 15, 77, 78, 79, 80, 81, 82, 83, 45, 84, 85, 86, 87, 7, 88, 104, 105, 106, 109, 110] (by decide +kernel) (by decide +kernel)
set_option maxRecDepth 20000 in
theorem gX8_write_X5_practiseIn : GoodIn wsX8_write (wsV RX8 66 RX5 yX5_practiseIn wsX5_practiseIn) := goodIn_app (goodIn_of _ (by decide +kernel)) ggX8_write_X5_practiseIn
theorem dX8_write_0 : decode cX8_write 0 = .ok (.aload_n 0, 1) := by decide +kernel
theorem dX8_write_1 : decode cX8_write 1 = .ok (.getfield 32, 3) := by decide +kernel
theorem dX8_write_4 : decode cX8_write 4 = .ok (.invokevirtual 54, 3) := by decide +kernel
theorem dX8_write_7 : decode cX8_write 7 = .ok (.istore_n 1, 1) := by decide +kernel
theorem dX8_write_8 : decode cX8_write 8 = .ok (.iload_n 1, 1) := by decide +kernel
theorem dX8_write_9 : decode cX8_write 9 = .ok (.iconst (-1), 1) := by decide +kernel
theorem dX8_write_10 : decode cX8_write 10 = .ok (.if_icmp .eq 8, 3) := by decide +kernel
theorem dX8_write_13 : decode cX8_write 13 = .ok (.bipush (-100), 2) := by decide +kernel
theorem dX8_write_15 : decode cX8_write 15 = .ok (.iload_n 1, 1) := by decide +kernel
theorem dX8_write_16 : decode cX8_write 16 = .ok (.isub, 1) := by decide +kernel
theorem dX8_write_17 : decode cX8_write 17 = .ok (.ireturn, 1) := by decide +kernel
theorem dX8_write_18 : decode cX8_write 18 = .ok (.aload_n 0, 1) := by decide +kernel
theorem dX8_write_19 : decode cX8_write 19 = .ok (.getfield 25, 3) := by decide +kernel
theorem dX8_write_22 : decode cX8_write 22 = .ok (.aload_n 0, 1) := by decide +kernel
theorem dX8_write_23 : decode cX8_write 23 = .ok (.getfield 12, 3) := by decide +kernel
theorem dX8_write_26 : decode cX8_write 26 = .ok (.invokevirtual 58, 3) := by decide +kernel
theorem dX8_write_29 : decode cX8_write 29 = .ok (.aload_n 0, 1) := by decide +kernel
theorem dX8_write_30 : decode cX8_write 30 = .ok (.getfield 32, 3) := by decide +kernel
theorem dX8_write_33 : decode cX8_write 33 = .ok (.aload_n 0, 1) := by decide +kernel
theorem dX8_write_34 : decode cX8_write 34 = .ok (.getfield 12, 3) := by decide +kernel
theorem dX8_write_37 : decode cX8_write 37 = .ok (.getfield 62, 3) := by decide +kernel
theorem dX8_write_40 : decode cX8_write 40 = .ok (.invokevirtual 66, 3) := by decide +kernel
theorem dX8_write_43 : decode cX8_write 43 = .ok (.istore_n 2, 1) := by decide +kernel
theorem dX8_write_44 : decode cX8_write 44 = .ok (.aload_n 0, 1) := by decide +kernel
theorem dX8_write_45 : decode cX8_write 45 = .ok (.getfield 12, 3) := by decide +kernel
theorem dX8_write_48 : decode cX8_write 48 = .ok (.dup, 1) := by decide +kernel
theorem dX8_write_49 : decode cX8_write 49 = .ok (.getfield 70, 3) := by decide +kernel
theorem dX8_write_52 : decode cX8_write 52 = .ok (.iconst 1, 1) := by decide +kernel
theorem dX8_write_53 : decode cX8_write 53 = .ok (.iadd, 1) := by decide +kernel
theorem dX8_write_54 : decode cX8_write 54 = .ok (.putfield 70, 3) := by decide +kernel
theorem dX8_write_57 : decode cX8_write 57 = .ok (.aload_n 0, 1) := by decide +kernel
theorem dX8_write_58 : decode cX8_write 58 = .ok (.getfield 12, 3) := by decide +kernel
theorem dX8_write_61 : decode cX8_write 61 = .ok (.dup, 1) := by decide +kernel
theorem dX8_write_62 : decode cX8_write 62 = .ok (.getfield 74, 3) := by decide +kernel
theorem dX8_write_65 : decode cX8_write 65 = .ok (.iload_n 2, 1) := by decide +kernel
theorem dX8_write_66 : decode cX8_write 66 = .ok (.iadd, 1) := by decide +kernel
theorem dX8_write_67 : decode cX8_write 67 = .ok (.putfield 74, 3) := by decide +kernel
theorem dX8_write_70 : decode cX8_write 70 = .ok (.iload_n 2, 1) := by decide +kernel
theorem dX8_write_71 : decode cX8_write 71 = .ok (.ireturn, 1) := by decide +kernel
set_option maxRecDepth 20000 in
theorem ggX8_pass_X0_remember : GoodIn wsX8_pass wsX0_remember := goodIn_r _ [7, 8, 9, 10, 11, 12, 6, 13, 14, 15, 16, 17, 18, 19, 20, 21, 22, 23, 24, 25, 26, 27, 28, 29, 30, 31, 32, 33, 34, 35, 36, 37, 38, 39, 40, 41, 42, 43, 44, 45, 46, 47, 48, 49, 50, 51, 52, 53, 73, 74, 66, 67, 68, 69, 70, 71, 72, 75, 76, 77, 78, 79, 80, 81, 82] (by decide +kernel) (by decide +kernel)
set_option maxRecDepth 20000 in
theorem gX8_pass_X0_remember : GoodIn wsX8_pass (wsV RX8 58 RX0 yX0_remember wsX0_remember) := goodIn_app (goodIn_of _ (by decide +kernel)) ggX8_pass_X0_remember
set_option maxRecDepth 20000 in
theorem ggX8_pass_X1_fade : GoodIn wsX8_pass wsX1_fade := goodIn_r _ [57, 31, 36, 75, 76] (by decide +kernel) (by decide +kernel)
set_option maxRecDepth 20000 in
theorem gX8_pass_X1_fade : GoodIn wsX8_pass (wsV RX8 80 RX1 yX1_fade wsX1_fade) := goodIn_app (goodIn_of _ (by decide +kernel)) ggX8_pass_X1_fade
theorem dX8_pass_0 : decode cX8_pass 0 = .ok (.iload_n 1, 1) := by decide +kernel
theorem dX8_pass_1 : decode cX8_pass 1 = .ok (.iconst 1, 1) := by decide +kernel
theorem dX8_pass_2 : decode cX8_pass 2 = .ok (.if_icmp .lt 9, 3) := by decide +kernel
theorem dX8_pass_5 : decode cX8_pass 5 = .ok (.iload_n 1, 1) := by decide +kernel
theorem dX8_pass_6 : decode cX8_pass 6 = .ok (.bipush 20, 2) := by decide +kernel
theorem dX8_pass_8 : decode cX8_pass 8 = .ok (.if_icmp .le 6, 3) := by decide +kernel
theorem dX8_pass_11 : decode cX8_pass 11 = .ok (.bipush (-2), 2) := by decide +kernel
theorem dX8_pass_13 : decode cX8_pass 13 = .ok (.ireturn, 1) := by decide +kernel
theorem dX8_pass_14 : decode cX8_pass 14 = .ok (.aload_n 0, 1) := by decide +kernel
theorem dX8_pass_15 : decode cX8_pass 15 = .ok (.getfield 12, 3) := by decide +kernel
theorem dX8_pass_18 : decode cX8_pass 18 = .ok (.getfield 77, 3) := by decide +kernel
theorem dX8_pass_21 : decode cX8_pass 21 = .ok (.iload_n 1, 1) := by decide +kernel
theorem dX8_pass_22 : decode cX8_pass 22 = .ok (.iadd, 1) := by decide +kernel
theorem dX8_pass_23 : decode cX8_pass 23 = .ok (.sipush 999, 3) := by decide +kernel
theorem dX8_pass_26 : decode cX8_pass 26 = .ok (.if_icmp .le 6, 3) := by decide +kernel
theorem dX8_pass_29 : decode cX8_pass 29 = .ok (.bipush (-3), 2) := by decide +kernel
theorem dX8_pass_31 : decode cX8_pass 31 = .ok (.ireturn, 1) := by decide +kernel
theorem dX8_pass_32 : decode cX8_pass 32 = .ok (.aload_n 0, 1) := by decide +kernel
theorem dX8_pass_33 : decode cX8_pass 33 = .ok (.getfield 25, 3) := by decide +kernel
theorem dX8_pass_36 : decode cX8_pass 36 = .ok (.aload_n 0, 1) := by decide +kernel
theorem dX8_pass_37 : decode cX8_pass 37 = .ok (.getfield 12, 3) := by decide +kernel
theorem dX8_pass_40 : decode cX8_pass 40 = .ok (.invokevirtual 58, 3) := by decide +kernel
theorem dX8_pass_43 : decode cX8_pass 43 = .ok (.aload_n 0, 1) := by decide +kernel
theorem dX8_pass_44 : decode cX8_pass 44 = .ok (.getfield 12, 3) := by decide +kernel
theorem dX8_pass_47 : decode cX8_pass 47 = .ok (.dup, 1) := by decide +kernel
theorem dX8_pass_48 : decode cX8_pass 48 = .ok (.getfield 77, 3) := by decide +kernel
theorem dX8_pass_51 : decode cX8_pass 51 = .ok (.iload_n 1, 1) := by decide +kernel
theorem dX8_pass_52 : decode cX8_pass 52 = .ok (.iadd, 1) := by decide +kernel
theorem dX8_pass_53 : decode cX8_pass 53 = .ok (.putfield 77, 3) := by decide +kernel
theorem dX8_pass_56 : decode cX8_pass 56 = .ok (.aload_n 0, 1) := by decide +kernel
theorem dX8_pass_57 : decode cX8_pass 57 = .ok (.getfield 12, 3) := by decide +kernel
theorem dX8_pass_60 : decode cX8_pass 60 = .ok (.getfield 62, 3) := by decide +kernel
theorem dX8_pass_63 : decode cX8_pass 63 = .ok (.iload_n 1, 1) := by decide +kernel
theorem dX8_pass_64 : decode cX8_pass 64 = .ok (.invokevirtual 80, 3) := by decide +kernel
theorem dX8_pass_67 : decode cX8_pass 67 = .ok (.ireturn, 1) := by decide +kernel
set_option maxRecDepth 20000 in
theorem ggX8_setUntried_X0_remember : GoodIn wsX8_setUntried wsX0_remember := goodIn_r _ [7, 8, 9, 10, 11, 12, 6, 13, 14, 15, 16, 17, 18, 19, 20, 21, 22, 23, 24, 25, 26, 27, 28, 29, 30, 31, 32, 33, 34, 35, 36, 37, 38, 39, 40, 41, 42, 43, 44, 45, 46, 47, 48, 49, 50, 51, 52, 53, 69, 70, 62, 63, 64, 65, 66, 67, 68, 71, 72, 73, 74, 75, 76, 77, 78] (by decide +kernel) (by decide +kernel)
set_option maxRecDepth 20000 in
theorem gX8_setUntried_X0_remember : GoodIn wsX8_setUntried (wsV RX8 58 RX0 yX0_remember wsX0_remember) := goodIn_app (goodIn_of _ (by decide +kernel)) ggX8_setUntried_X0_remember
theorem dX8_setUntried_0 : decode cX8_setUntried 0 = .ok (.iload_n 1, 1) := by decide +kernel
theorem dX8_setUntried_1 : decode cX8_setUntried 1 = .ok (.ifCond .lt 9, 3) := by decide +kernel
theorem dX8_setUntried_4 : decode cX8_setUntried 4 = .ok (.iload_n 1, 1) := by decide +kernel
theorem dX8_setUntried_5 : decode cX8_setUntried 5 = .ok (.bipush 99, 2) := by decide +kernel
theorem dX8_setUntried_7 : decode cX8_setUntried 7 = .ok (.if_icmp .le 6, 3) := by decide +kernel
theorem dX8_setUntried_10 : decode cX8_setUntried 10 = .ok (.bipush (-2), 2) := by decide +kernel
theorem dX8_setUntried_12 : decode cX8_setUntried 12 = .ok (.ireturn, 1) := by decide +kernel
theorem dX8_setUntried_13 : decode cX8_setUntried 13 = .ok (.aload_n 0, 1) := by decide +kernel
theorem dX8_setUntried_14 : decode cX8_setUntried 14 = .ok (.getfield 12, 3) := by decide +kernel
theorem dX8_setUntried_17 : decode cX8_setUntried 17 = .ok (.getfield 86, 3) := by decide +kernel
theorem dX8_setUntried_20 : decode cX8_setUntried 20 = .ok (.istore_n 2, 1) := by decide +kernel
theorem dX8_setUntried_21 : decode cX8_setUntried 21 = .ok (.iload_n 1, 1) := by decide +kernel
theorem dX8_setUntried_22 : decode cX8_setUntried 22 = .ok (.iload_n 2, 1) := by decide +kernel
theorem dX8_setUntried_23 : decode cX8_setUntried 23 = .ok (.if_icmp .ne 6, 3) := by decide +kernel
theorem dX8_setUntried_26 : decode cX8_setUntried 26 = .ok (.bipush (-5), 2) := by decide +kernel
theorem dX8_setUntried_28 : decode cX8_setUntried 28 = .ok (.ireturn, 1) := by decide +kernel
theorem dX8_setUntried_29 : decode cX8_setUntried 29 = .ok (.aload_n 0, 1) := by decide +kernel
theorem dX8_setUntried_30 : decode cX8_setUntried 30 = .ok (.getfield 25, 3) := by decide +kernel
theorem dX8_setUntried_33 : decode cX8_setUntried 33 = .ok (.aload_n 0, 1) := by decide +kernel
theorem dX8_setUntried_34 : decode cX8_setUntried 34 = .ok (.getfield 12, 3) := by decide +kernel
theorem dX8_setUntried_37 : decode cX8_setUntried 37 = .ok (.invokevirtual 58, 3) := by decide +kernel
theorem dX8_setUntried_40 : decode cX8_setUntried 40 = .ok (.aload_n 0, 1) := by decide +kernel
theorem dX8_setUntried_41 : decode cX8_setUntried 41 = .ok (.getfield 12, 3) := by decide +kernel
theorem dX8_setUntried_44 : decode cX8_setUntried 44 = .ok (.iload_n 1, 1) := by decide +kernel
theorem dX8_setUntried_45 : decode cX8_setUntried 45 = .ok (.putfield 86, 3) := by decide +kernel
theorem dX8_setUntried_48 : decode cX8_setUntried 48 = .ok (.iload_n 2, 1) := by decide +kernel
theorem dX8_setUntried_49 : decode cX8_setUntried 49 = .ok (.ireturn, 1) := by decide +kernel
set_option maxRecDepth 20000 in
theorem ggX8_addWords_X5_faultAsWords : GoodIn wsX8_addWords wsX5_faultAsWords := goodIn_r _ [9, 10, 11, 12, 13, 14, 117, 118, 119] (by decide +kernel) (by decide +kernel)
set_option maxRecDepth 20000 in
theorem gX8_addWords_X5_faultAsWords : GoodIn wsX8_addWords (wsV RX8 89 RX5 yX5_faultAsWords wsX5_faultAsWords) := goodIn_app (goodIn_of _ (by decide +kernel)) ggX8_addWords_X5_faultAsWords
set_option maxRecDepth 20000 in
theorem ggX8_addWords_X7_copyFrom : GoodIn wsX8_addWords wsX7_copyFrom := goodIn_r _ [19, 20, 21, 22, 23, 24, 25, 26, 27, 28, 29, 30, 31, 32, 33, 34, 115, 116, 120, 121, 122, 123] (by decide +kernel) (by decide +kernel)
set_option maxRecDepth 20000 in
theorem gX8_addWords_X7_copyFrom : GoodIn wsX8_addWords (wsV RX8 96 RX7 yX7_copyFrom wsX7_copyFrom) := goodIn_app (goodIn_of _ (by decide +kernel)) ggX8_addWords_X7_copyFrom
set_option maxRecDepth 20000 in
theorem ggX8_addWords_X5_spellInto : GoodIn wsX8_addWords wsX5_spellInto := goodIn_r _ [38, 39, 10, 11, 40, 41, 42, 25, 43, 33, 34, 44, 13, 45, 46, 47, 48, 49, 27, 50, 51, 52, 53, 32, 54, 55, 56, 57, 58, 59, 60, 61, 62, 18, 63, 20, 21, 64, 65, 66, 67, 22, 23, 24, 26, 28, 29, 30, 31, 117, 118, 119, 120, 121, 122, 123, 115, 116] (by decide +kernel) (by decide +kernel)
set_option maxRecDepth 20000 in
theorem gX8_addWords_X5_spellInto : GoodIn wsX8_addWords (wsV RX8 102 RX5 yX5_spellInto wsX5_spellInto) := goodIn_app (goodIn_of _ (by decide +kernel)) ggX8_addWords_X5_spellInto
set_option maxRecDepth 20000 in
theorem ggX8_addWords_X0_remember : GoodIn wsX8_addWords wsX0_remember := goodIn_r _ [72, 73, 74, 75, 76, 77, 71, 78, 79, 80, 81, 82, 83, 84, 85, 86, 87, 88, 89, 90, 91, 92, 93, 94, 95, 96, 97, 29, 30, 31, 98, 99, 16, 17, 18, 19, 20, 21, 22, 23, 24, 25, 26, 27, 28, 32, 33, 34, 124, 125, 108, 109, 110, 111, 112, 113, 114, 126, 127, 115, 116, 120, 121, 122, 123] (by decide +kernel) (by decide +kernel)
set_option maxRecDepth 20000 in
theorem gX8_addWords_X0_remember : GoodIn wsX8_addWords (wsV RX8 58 RX0 yX0_remember wsX0_remember) := goodIn_app (goodIn_of _ (by decide +kernel)) ggX8_addWords_X0_remember
theorem dX8_addWords_0 : decode cX8_addWords 0 = .ok (.aload_n 0, 1) := by decide +kernel
theorem dX8_addWords_1 : decode cX8_addWords 1 = .ok (.getfield 32, 3) := by decide +kernel
theorem dX8_addWords_4 : decode cX8_addWords 4 = .ok (.invokevirtual 89, 3) := by decide +kernel
theorem dX8_addWords_7 : decode cX8_addWords 7 = .ok (.istore_n 1, 1) := by decide +kernel
theorem dX8_addWords_8 : decode cX8_addWords 8 = .ok (.iload_n 1, 1) := by decide +kernel
theorem dX8_addWords_9 : decode cX8_addWords 9 = .ok (.iconst (-1), 1) := by decide +kernel
theorem dX8_addWords_10 : decode cX8_addWords 10 = .ok (.if_icmp .eq 8, 3) := by decide +kernel
theorem dX8_addWords_13 : decode cX8_addWords 13 = .ok (.bipush (-100), 2) := by decide +kernel
theorem dX8_addWords_15 : decode cX8_addWords 15 = .ok (.iload_n 1, 1) := by decide +kernel
theorem dX8_addWords_16 : decode cX8_addWords 16 = .ok (.isub, 1) := by decide +kernel
theorem dX8_addWords_17 : decode cX8_addWords 17 = .ok (.ireturn, 1) := by decide +kernel
theorem dX8_addWords_18 : decode cX8_addWords 18 = .ok (.aload_n 0, 1) := by decide +kernel
theorem dX8_addWords_19 : decode cX8_addWords 19 = .ok (.getfield 19, 3) := by decide +kernel
theorem dX8_addWords_22 : decode cX8_addWords 22 = .ok (.getfield 92, 3) := by decide +kernel
theorem dX8_addWords_25 : decode cX8_addWords 25 = .ok (.astore_n 2, 1) := by decide +kernel
theorem dX8_addWords_26 : decode cX8_addWords 26 = .ok (.aload_n 2, 1) := by decide +kernel
theorem dX8_addWords_27 : decode cX8_addWords 27 = .ok (.aload_n 0, 1) := by decide +kernel
theorem dX8_addWords_28 : decode cX8_addWords 28 = .ok (.getfield 12, 3) := by decide +kernel
theorem dX8_addWords_31 : decode cX8_addWords 31 = .ok (.getfield 92, 3) := by decide +kernel
theorem dX8_addWords_34 : decode cX8_addWords 34 = .ok (.invokevirtual 96, 3) := by decide +kernel
theorem dX8_addWords_37 : decode cX8_addWords 37 = .ok (.aload_n 0, 1) := by decide +kernel
theorem dX8_addWords_38 : decode cX8_addWords 38 = .ok (.getfield 32, 3) := by decide +kernel
theorem dX8_addWords_41 : decode cX8_addWords 41 = .ok (.aload_n 2, 1) := by decide +kernel
theorem dX8_addWords_42 : decode cX8_addWords 42 = .ok (.invokevirtual 102, 3) := by decide +kernel
theorem dX8_addWords_45 : decode cX8_addWords 45 = .ok (.ifCond .ne 6, 3) := by decide +kernel
theorem dX8_addWords_48 : decode cX8_addWords 48 = .ok (.bipush (-3), 2) := by decide +kernel
theorem dX8_addWords_50 : decode cX8_addWords 50 = .ok (.ireturn, 1) := by decide +kernel
theorem dX8_addWords_51 : decode cX8_addWords 51 = .ok (.aload_n 2, 1) := by decide +kernel
theorem dX8_addWords_52 : decode cX8_addWords 52 = .ok (.getfield 106, 3) := by decide +kernel
theorem dX8_addWords_55 : decode cX8_addWords 55 = .ok (.aload_n 0, 1) := by decide +kernel
theorem dX8_addWords_56 : decode cX8_addWords 56 = .ok (.getfield 12, 3) := by decide +kernel
theorem dX8_addWords_59 : decode cX8_addWords 59 = .ok (.getfield 92, 3) := by decide +kernel
theorem dX8_addWords_62 : decode cX8_addWords 62 = .ok (.getfield 106, 3) := by decide +kernel
theorem dX8_addWords_65 : decode cX8_addWords 65 = .ok (.isub, 1) := by decide +kernel
theorem dX8_addWords_66 : decode cX8_addWords 66 = .ok (.istore_n 3, 1) := by decide +kernel
theorem dX8_addWords_67 : decode cX8_addWords 67 = .ok (.iload_n 3, 1) := by decide +kernel
theorem dX8_addWords_68 : decode cX8_addWords 68 = .ok (.ifCond .ne 6, 3) := by decide +kernel
theorem dX8_addWords_71 : decode cX8_addWords 71 = .ok (.bipush (-5), 2) := by decide +kernel
theorem dX8_addWords_73 : decode cX8_addWords 73 = .ok (.ireturn, 1) := by decide +kernel
theorem dX8_addWords_74 : decode cX8_addWords 74 = .ok (.aload_n 0, 1) := by decide +kernel
theorem dX8_addWords_75 : decode cX8_addWords 75 = .ok (.getfield 25, 3) := by decide +kernel
theorem dX8_addWords_78 : decode cX8_addWords 78 = .ok (.aload_n 0, 1) := by decide +kernel
theorem dX8_addWords_79 : decode cX8_addWords 79 = .ok (.getfield 12, 3) := by decide +kernel
theorem dX8_addWords_82 : decode cX8_addWords 82 = .ok (.invokevirtual 58, 3) := by decide +kernel
theorem dX8_addWords_85 : decode cX8_addWords 85 = .ok (.aload_n 0, 1) := by decide +kernel
theorem dX8_addWords_86 : decode cX8_addWords 86 = .ok (.getfield 12, 3) := by decide +kernel
theorem dX8_addWords_89 : decode cX8_addWords 89 = .ok (.getfield 92, 3) := by decide +kernel
theorem dX8_addWords_92 : decode cX8_addWords 92 = .ok (.aload_n 2, 1) := by decide +kernel
theorem dX8_addWords_93 : decode cX8_addWords 93 = .ok (.invokevirtual 96, 3) := by decide +kernel
theorem dX8_addWords_96 : decode cX8_addWords 96 = .ok (.iload_n 3, 1) := by decide +kernel
theorem dX8_addWords_97 : decode cX8_addWords 97 = .ok (.ireturn, 1) := by decide +kernel
set_option maxRecDepth 20000 in
theorem ggX8_removeWord_X7_at : GoodIn wsX8_removeWord wsX7_at := goodIn_r _ [7, 8, 9, 77, 78] (by decide +kernel) (by decide +kernel)
set_option maxRecDepth 20000 in
theorem gX8_removeWord_X7_at : GoodIn wsX8_removeWord (wsV RX8 109 RX7 yX7_at wsX7_at) := goodIn_app (goodIn_of _ (by decide +kernel)) ggX8_removeWord_X7_at
set_option maxRecDepth 20000 in
theorem ggX8_removeWord_X0_remember : GoodIn wsX8_removeWord wsX0_remember := goodIn_r _ [14, 15, 16, 17, 18, 19, 13, 20, 21, 22, 23, 24, 25, 26, 27, 28, 29, 30, 31, 32, 33, 34, 35, 36, 37, 38, 39, 40, 41, 42, 43, 44, 45, 46, 6, 47, 8, 9, 48, 49, 50, 51, 52, 53, 54, 55, 56, 57, 79, 80, 70, 71, 72, 73, 74, 75, 76, 81, 82, 77, 78, 83, 84, 85, 86] (by decide +kernel) (by decide +kernel)
set_option maxRecDepth 20000 in
theorem gX8_removeWord_X0_remember : GoodIn wsX8_removeWord (wsV RX8 58 RX0 yX0_remember wsX0_remember) := goodIn_app (goodIn_of _ (by decide +kernel)) ggX8_removeWord_X0_remember
set_option maxRecDepth 20000 in
theorem ggX8_removeWord_X7_drop : GoodIn wsX8_removeWord wsX7_drop := goodIn_r _ [61, 8, 9, 48, 49, 50, 51, 52, 53, 54, 40, 41, 42, 55, 56, 57, 77, 78, 83, 84, 85, 86] (by decide +kernel) (by decide +kernel)
set_option maxRecDepth 20000 in
theorem gX8_removeWord_X7_drop : GoodIn wsX8_removeWord (wsV RX8 113 RX7 yX7_drop wsX7_drop) := goodIn_app (goodIn_of _ (by decide +kernel)) ggX8_removeWord_X7_drop
theorem dX8_removeWord_0 : decode cX8_removeWord 0 = .ok (.aload_n 0, 1) := by decide +kernel
theorem dX8_removeWord_1 : decode cX8_removeWord 1 = .ok (.getfield 12, 3) := by decide +kernel
theorem dX8_removeWord_4 : decode cX8_removeWord 4 = .ok (.getfield 92, 3) := by decide +kernel
theorem dX8_removeWord_7 : decode cX8_removeWord 7 = .ok (.iload_n 1, 1) := by decide +kernel
theorem dX8_removeWord_8 : decode cX8_removeWord 8 = .ok (.invokevirtual 109, 3) := by decide +kernel
theorem dX8_removeWord_11 : decode cX8_removeWord 11 = .ok (.ifnonnull 5, 3) := by decide +kernel
theorem dX8_removeWord_14 : decode cX8_removeWord 14 = .ok (.iconst (-1), 1) := by decide +kernel
theorem dX8_removeWord_15 : decode cX8_removeWord 15 = .ok (.ireturn, 1) := by decide +kernel
theorem dX8_removeWord_16 : decode cX8_removeWord 16 = .ok (.aload_n 0, 1) := by decide +kernel
theorem dX8_removeWord_17 : decode cX8_removeWord 17 = .ok (.getfield 25, 3) := by decide +kernel
theorem dX8_removeWord_20 : decode cX8_removeWord 20 = .ok (.aload_n 0, 1) := by decide +kernel
theorem dX8_removeWord_21 : decode cX8_removeWord 21 = .ok (.getfield 12, 3) := by decide +kernel
theorem dX8_removeWord_24 : decode cX8_removeWord 24 = .ok (.invokevirtual 58, 3) := by decide +kernel
theorem dX8_removeWord_27 : decode cX8_removeWord 27 = .ok (.aload_n 0, 1) := by decide +kernel
theorem dX8_removeWord_28 : decode cX8_removeWord 28 = .ok (.getfield 12, 3) := by decide +kernel
theorem dX8_removeWord_31 : decode cX8_removeWord 31 = .ok (.getfield 92, 3) := by decide +kernel
theorem dX8_removeWord_34 : decode cX8_removeWord 34 = .ok (.iload_n 1, 1) := by decide +kernel
theorem dX8_removeWord_35 : decode cX8_removeWord 35 = .ok (.invokevirtual 113, 3) := by decide +kernel
theorem dX8_removeWord_38 : decode cX8_removeWord 38 = .ok (.aload_n 0, 1) := by decide +kernel
theorem dX8_removeWord_39 : decode cX8_removeWord 39 = .ok (.getfield 12, 3) := by decide +kernel
theorem dX8_removeWord_42 : decode cX8_removeWord 42 = .ok (.getfield 92, 3) := by decide +kernel
theorem dX8_removeWord_45 : decode cX8_removeWord 45 = .ok (.getfield 106, 3) := by decide +kernel
theorem dX8_removeWord_48 : decode cX8_removeWord 48 = .ok (.ireturn, 1) := by decide +kernel
set_option maxRecDepth 20000 in
theorem ggX8_doSheet_X8_areLines : GoodIn wsX8_doSheet wsX8_areLines := goodIn_r _ [7] (by decide +kernel) (by decide +kernel)
set_option maxRecDepth 20000 in
theorem gX8_doSheet_X8_areLines : GoodIn wsX8_doSheet (va_wsS RX8 117 yX8_areLines wsX8_areLines) := goodIn_app (goodIn_of _ (by decide +kernel)) ggX8_doSheet_X8_areLines
set_option maxRecDepth 20000 in
theorem ggX8_doSheet_X3_choose : GoodIn wsX8_doSheet wsX3_choose := goodIn_r _ [12, 13, 14, 15, 11, 16, 17, 18, 19, 20, 21, 22, 23, 24, 25, 26, 27, 28, 29, 30, 31, 32, 33, 34, 35, 36, 37, 38, 6, 39, 40, 41, 42, 43, 44, 45, 46, 47, 48, 49, 50, 51, 52, 53, 54, 55, 56, 57, 58, 133, 134, 135, 136, 137, 138, 139, 140, 141, 142, 143, 144, 145, 146, 147, 148, 149, 150, 151, 152] (by decide +kernel) (by decide +kernel)
set_option maxRecDepth 20000 in
theorem gX8_doSheet_X3_choose : GoodIn wsX8_doSheet (wsV RX8 121 RX3 yX3_choose wsX3_choose) := goodIn_app (goodIn_of _ (by decide +kernel)) ggX8_doSheet_X3_choose
set_option maxRecDepth 20000 in
theorem ggX8_doSheet_X0_remember : GoodIn wsX8_doSheet wsX0_remember := goodIn_r _ [63, 64, 65, 66, 67, 68, 62, 69, 70, 71, 72, 73, 74, 75, 76, 77, 78, 79, 80, 81, 82, 83, 84, 31, 85, 37, 86, 87, 88, 89, 52, 90, 91, 92, 93, 94, 95, 96, 97, 98, 99, 100, 101, 102, 103, 104, 105, 106, 153, 154, 138, 139, 140, 141, 142, 143, 144, 151, 152, 145, 146, 147, 148, 149, 150] (by decide +kernel) (by decide +kernel)
set_option maxRecDepth 20000 in
theorem gX8_doSheet_X0_remember : GoodIn wsX8_doSheet (wsV RX8 58 RX0 yX0_remember wsX0_remember) := goodIn_app (goodIn_of _ (by decide +kernel)) ggX8_doSheet_X0_remember
set_option maxRecDepth 20000 in
theorem ggX8_doSheet_X4_practise : GoodIn wsX8_doSheet wsX4_practise := goodIn_r _ [110, 76, 75, 79, 81, 111, 112, 113, 93, 114, 95, 96, 115, 116, 117, 31, 118, 119, 120, 121, 122, 37, 38, 6, 39, 123, 124, 133, 134, 135, 136, 137, 138, 139, 140, 141, 142, 143, 144, 145, 146, 147, 148, 149, 150, 151, 152] (by decide +kernel) (by decide +kernel)
set_option maxRecDepth 20000 in
theorem gX8_doSheet_X4_practise : GoodIn wsX8_doSheet (wsV RX8 126 RX4 yX4_practise wsX4_practise) := goodIn_app (goodIn_of _ (by decide +kernel)) ggX8_doSheet_X4_practise
theorem dX8_doSheet_0 : decode cX8_doSheet 0 = .ok (.iload_n 1, 1) := by decide +kernel
theorem dX8_doSheet_1 : decode cX8_doSheet 1 = .ok (.invokestatic 117, 3) := by decide +kernel
theorem dX8_doSheet_4 : decode cX8_doSheet 4 = .ok (.ifCond .ne 6, 3) := by decide +kernel
theorem dX8_doSheet_7 : decode cX8_doSheet 7 = .ok (.bipush (-2), 2) := by decide +kernel
theorem dX8_doSheet_9 : decode cX8_doSheet 9 = .ok (.ireturn, 1) := by decide +kernel
theorem dX8_doSheet_10 : decode cX8_doSheet 10 = .ok (.aload_n 0, 1) := by decide +kernel
theorem dX8_doSheet_11 : decode cX8_doSheet 11 = .ok (.getfield 39, 3) := by decide +kernel
theorem dX8_doSheet_14 : decode cX8_doSheet 14 = .ok (.aload_n 0, 1) := by decide +kernel
theorem dX8_doSheet_15 : decode cX8_doSheet 15 = .ok (.getfield 12, 3) := by decide +kernel
theorem dX8_doSheet_18 : decode cX8_doSheet 18 = .ok (.iload_n 1, 1) := by decide +kernel
theorem dX8_doSheet_19 : decode cX8_doSheet 19 = .ok (.invokevirtual 121, 3) := by decide +kernel
theorem dX8_doSheet_22 : decode cX8_doSheet 22 = .ok (.aload_n 0, 1) := by decide +kernel
theorem dX8_doSheet_23 : decode cX8_doSheet 23 = .ok (.getfield 39, 3) := by decide +kernel
theorem dX8_doSheet_26 : decode cX8_doSheet 26 = .ok (.getfield 125, 3) := by decide +kernel
theorem dX8_doSheet_29 : decode cX8_doSheet 29 = .ok (.ifCond .ne 6, 3) := by decide +kernel
theorem dX8_doSheet_32 : decode cX8_doSheet 32 = .ok (.bipush (-5), 2) := by decide +kernel
theorem dX8_doSheet_34 : decode cX8_doSheet 34 = .ok (.ireturn, 1) := by decide +kernel
theorem dX8_doSheet_35 : decode cX8_doSheet 35 = .ok (.aload_n 0, 1) := by decide +kernel
theorem dX8_doSheet_36 : decode cX8_doSheet 36 = .ok (.getfield 25, 3) := by decide +kernel
theorem dX8_doSheet_39 : decode cX8_doSheet 39 = .ok (.aload_n 0, 1) := by decide +kernel
theorem dX8_doSheet_40 : decode cX8_doSheet 40 = .ok (.getfield 12, 3) := by decide +kernel
theorem dX8_doSheet_43 : decode cX8_doSheet 43 = .ok (.invokevirtual 58, 3) := by decide +kernel
theorem dX8_doSheet_46 : decode cX8_doSheet 46 = .ok (.aload_n 0, 1) := by decide +kernel
theorem dX8_doSheet_47 : decode cX8_doSheet 47 = .ok (.getfield 12, 3) := by decide +kernel
theorem dX8_doSheet_50 : decode cX8_doSheet 50 = .ok (.aload_n 0, 1) := by decide +kernel
theorem dX8_doSheet_51 : decode cX8_doSheet 51 = .ok (.getfield 39, 3) := by decide +kernel
theorem dX8_doSheet_54 : decode cX8_doSheet 54 = .ok (.invokevirtual 126, 3) := by decide +kernel
theorem dX8_doSheet_57 : decode cX8_doSheet 57 = .ok (.aload_n 0, 1) := by decide +kernel
theorem dX8_doSheet_58 : decode cX8_doSheet 58 = .ok (.getfield 39, 3) := by decide +kernel
theorem dX8_doSheet_61 : decode cX8_doSheet 61 = .ok (.getfield 125, 3) := by decide +kernel
theorem dX8_doSheet_64 : decode cX8_doSheet 64 = .ok (.ireturn, 1) := by decide +kernel
set_option maxRecDepth 20000 in
theorem ggX8_type_X5_append : GoodIn wsX8_type wsX5_append := goodIn_r _ [6, 7, 8, 17, 18, 19] (by decide +kernel) (by decide +kernel)
set_option maxRecDepth 20000 in
theorem gX8_type_X5_append : GoodIn wsX8_type (wsV RX8 130 RX5 yX5_append wsX5_append) := goodIn_app (goodIn_of _ (by decide +kernel)) ggX8_type_X5_append
theorem dX8_type_0 : decode cX8_type 0 = .ok (.aload_n 0, 1) := by decide +kernel
theorem dX8_type_1 : decode cX8_type 1 = .ok (.getfield 32, 3) := by decide +kernel
theorem dX8_type_4 : decode cX8_type 4 = .ok (.iload_n 1, 1) := by decide +kernel
theorem dX8_type_5 : decode cX8_type 5 = .ok (.invokevirtual 130, 3) := by decide +kernel
theorem dX8_type_8 : decode cX8_type 8 = .ok (.ifCond .eq 13, 3) := by decide +kernel
theorem dX8_type_11 : decode cX8_type 11 = .ok (.aload_n 0, 1) := by decide +kernel
theorem dX8_type_12 : decode cX8_type 12 = .ok (.getfield 32, 3) := by decide +kernel
theorem dX8_type_15 : decode cX8_type 15 = .ok (.getfield 134, 3) := by decide +kernel
theorem dX8_type_18 : decode cX8_type 18 = .ok (.goto 5, 3) := by decide +kernel
theorem dX8_type_21 : decode cX8_type 21 = .ok (.bipush (-3), 2) := by decide +kernel
theorem dX8_type_23 : decode cX8_type 23 = .ok (.ireturn, 1) := by decide +kernel
theorem dX8_clearText_0 : decode cX8_clearText 0 = .ok (.aload_n 0, 1) := by decide +kernel
theorem dX8_clearText_1 : decode cX8_clearText 1 = .ok (.getfield 32, 3) := by decide +kernel
theorem dX8_clearText_4 : decode cX8_clearText 4 = .ok (.getfield 134, 3) := by decide +kernel
theorem dX8_clearText_7 : decode cX8_clearText 7 = .ok (.istore_n 1, 1) := by decide +kernel
theorem dX8_clearText_8 : decode cX8_clearText 8 = .ok (.aload_n 0, 1) := by decide +kernel
theorem dX8_clearText_9 : decode cX8_clearText 9 = .ok (.getfield 32, 3) := by decide +kernel
theorem dX8_clearText_12 : decode cX8_clearText 12 = .ok (.iconst 0, 1) := by decide +kernel
theorem dX8_clearText_13 : decode cX8_clearText 13 = .ok (.putfield 134, 3) := by decide +kernel
theorem dX8_clearText_16 : decode cX8_clearText 16 = .ok (.iload_n 1, 1) := by decide +kernel
theorem dX8_clearText_17 : decode cX8_clearText 17 = .ok (.ireturn, 1) := by decide +kernel
set_option maxRecDepth 20000 in
theorem ggX8_undo_X0_takeBack : GoodIn wsX8_undo wsX0_takeBack := goodIn_r _ [7, 8, 9, 10, 11, 12, 13, 14, 15, 16, 17, 18, 19, 20, 21, 22, 23, 24, 25, 26, 27, 28, 29, 30, 31, 32, 33, 34, 35, 36, 37, 38, 39, 40, 41, 42, 43, 44, 45, 46, 47, 48, 49, 58, 59, 60, 61, 62, 63, 64, 65, 66, 67, 68, 69, 70, 71, 72, 73, 74] (by decide +kernel) (by decide +kernel)
set_option maxRecDepth 20000 in
theorem gX8_undo_X0_takeBack : GoodIn wsX8_undo (wsV RX8 137 RX0 yX0_takeBack wsX0_takeBack) := goodIn_app (goodIn_of _ (by decide +kernel)) ggX8_undo_X0_takeBack
theorem dX8_undo_0 : decode cX8_undo 0 = .ok (.aload_n 0, 1) := by decide +kernel
theorem dX8_undo_1 : decode cX8_undo 1 = .ok (.getfield 25, 3) := by decide +kernel
theorem dX8_undo_4 : decode cX8_undo 4 = .ok (.aload_n 0, 1) := by decide +kernel
theorem dX8_undo_5 : decode cX8_undo 5 = .ok (.getfield 12, 3) := by decide +kernel
theorem dX8_undo_8 : decode cX8_undo 8 = .ok (.invokevirtual 137, 3) := by decide +kernel
theorem dX8_undo_11 : decode cX8_undo 11 = .ok (.ifCond .eq 13, 3) := by decide +kernel
theorem dX8_undo_14 : decode cX8_undo 14 = .ok (.aload_n 0, 1) := by decide +kernel
theorem dX8_undo_15 : decode cX8_undo 15 = .ok (.getfield 25, 3) := by decide +kernel
theorem dX8_undo_18 : decode cX8_undo 18 = .ok (.getfield 141, 3) := by decide +kernel
theorem dX8_undo_21 : decode cX8_undo 21 = .ok (.goto 5, 3) := by decide +kernel
theorem dX8_undo_24 : decode cX8_undo 24 = .ok (.bipush (-5), 2) := by decide +kernel
theorem dX8_undo_26 : decode cX8_undo 26 = .ok (.ireturn, 1) := by decide +kernel
set_option maxRecDepth 20000 in
theorem ggX8_keep_X4_copyFrom : GoodIn wsX8_keep wsX4_copyFrom := goodIn_r _ [8, 9, 10, 11, 12, 13, 14, 15, 16, 17, 18, 19, 20, 21, 22, 23, 24, 25, 26, 27, 28, 29, 30, 31, 32, 33, 34, 35, 36, 37, 38, 39, 40, 41, 42, 43, 52, 53, 54, 55, 56, 57, 58, 61, 62, 59, 60, 63, 64, 65, 66] (by decide +kernel) (by decide +kernel)
set_option maxRecDepth 20000 in
theorem gX8_keep_X4_copyFrom : GoodIn wsX8_keep (wsV RX8 142 RX4 yX4_copyFrom wsX4_copyFrom) := goodIn_app (goodIn_of _ (by decide +kernel)) ggX8_keep_X4_copyFrom
theorem dX8_keep_0 : decode cX8_keep 0 = .ok (.aload_n 0, 1) := by decide +kernel
theorem dX8_keep_1 : decode cX8_keep 1 = .ok (.getfield 16, 3) := by decide +kernel
theorem dX8_keep_4 : decode cX8_keep 4 = .ok (.aload_n 0, 1) := by decide +kernel
theorem dX8_keep_5 : decode cX8_keep 5 = .ok (.getfield 12, 3) := by decide +kernel
theorem dX8_keep_8 : decode cX8_keep 8 = .ok (.invokevirtual 142, 3) := by decide +kernel
theorem dX8_keep_11 : decode cX8_keep 11 = .ok (.aload_n 0, 1) := by decide +kernel
theorem dX8_keep_12 : decode cX8_keep 12 = .ok (.iconst 1, 1) := by decide +kernel
theorem dX8_keep_13 : decode cX8_keep 13 = .ok (.putfield 50, 3) := by decide +kernel
theorem dX8_keep_16 : decode cX8_keep 16 = .ok (.aload_n 0, 1) := by decide +kernel
theorem dX8_keep_17 : decode cX8_keep 17 = .ok (.getfield 12, 3) := by decide +kernel
theorem dX8_keep_20 : decode cX8_keep 20 = .ok (.getfield 92, 3) := by decide +kernel
theorem dX8_keep_23 : decode cX8_keep 23 = .ok (.getfield 106, 3) := by decide +kernel
theorem dX8_keep_26 : decode cX8_keep 26 = .ok (.ireturn, 1) := by decide +kernel
set_option maxRecDepth 20000 in
theorem ggX8_restore_X0_remember : GoodIn wsX8_restore wsX0_remember := goodIn_r _ [9, 10, 11, 12, 13, 14, 8, 15, 16, 17, 18, 19, 20, 21, 22, 23, 24, 25, 26, 27, 28, 29, 30, 31, 32, 33, 34, 35, 36, 37, 38, 39, 40, 41, 42, 43, 44, 45, 46, 47, 48, 49, 50, 51, 52, 53, 54, 55, 74, 75, 65, 66, 67, 68, 69, 70, 71, 76, 77, 72, 73, 78, 79, 80, 81] (by decide +kernel) (by decide +kernel)
set_option maxRecDepth 20000 in
theorem gX8_restore_X0_remember : GoodIn wsX8_restore (wsV RX8 58 RX0 yX0_remember wsX0_remember) := goodIn_app (goodIn_of _ (by decide +kernel)) ggX8_restore_X0_remember
set_option maxRecDepth 20000 in
theorem ggX8_restore_X4_copyFrom : GoodIn wsX8_restore wsX4_copyFrom := goodIn_r _ [20, 21, 22, 23, 24, 25, 26, 27, 28, 29, 30, 31, 32, 33, 34, 35, 36, 37, 38, 39, 40, 41, 42, 43, 44, 45, 46, 47, 48, 49, 50, 51, 52, 53, 54, 55, 65, 66, 67, 68, 69, 70, 71, 76, 77, 72, 73, 78, 79, 80, 81] (by decide +kernel) (by decide +kernel)
set_option maxRecDepth 20000 in
theorem gX8_restore_X4_copyFrom : GoodIn wsX8_restore (wsV RX8 142 RX4 yX4_copyFrom wsX4_copyFrom) := goodIn_app (goodIn_of _ (by decide +kernel)) ggX8_restore_X4_copyFrom
theorem dX8_restore_0 : decode cX8_restore 0 = .ok (.aload_n 0, 1) := by decide +kernel
theorem dX8_restore_1 : decode cX8_restore 1 = .ok (.getfield 50, 3) := by decide +kernel
theorem dX8_restore_4 : decode cX8_restore 4 = .ok (.ifCond .ne 6, 3) := by decide +kernel
theorem dX8_restore_7 : decode cX8_restore 7 = .ok (.bipush (-5), 2) := by decide +kernel
theorem dX8_restore_9 : decode cX8_restore 9 = .ok (.ireturn, 1) := by decide +kernel
theorem dX8_restore_10 : decode cX8_restore 10 = .ok (.aload_n 0, 1) := by decide +kernel
theorem dX8_restore_11 : decode cX8_restore 11 = .ok (.getfield 25, 3) := by decide +kernel
theorem dX8_restore_14 : decode cX8_restore 14 = .ok (.aload_n 0, 1) := by decide +kernel
theorem dX8_restore_15 : decode cX8_restore 15 = .ok (.getfield 12, 3) := by decide +kernel
theorem dX8_restore_18 : decode cX8_restore 18 = .ok (.invokevirtual 58, 3) := by decide +kernel
theorem dX8_restore_21 : decode cX8_restore 21 = .ok (.aload_n 0, 1) := by decide +kernel
theorem dX8_restore_22 : decode cX8_restore 22 = .ok (.getfield 12, 3) := by decide +kernel
theorem dX8_restore_25 : decode cX8_restore 25 = .ok (.aload_n 0, 1) := by decide +kernel
theorem dX8_restore_26 : decode cX8_restore 26 = .ok (.getfield 16, 3) := by decide +kernel
theorem dX8_restore_29 : decode cX8_restore 29 = .ok (.invokevirtual 142, 3) := by decide +kernel
theorem dX8_restore_32 : decode cX8_restore 32 = .ok (.aload_n 0, 1) := by decide +kernel
theorem dX8_restore_33 : decode cX8_restore 33 = .ok (.getfield 12, 3) := by decide +kernel
theorem dX8_restore_36 : decode cX8_restore 36 = .ok (.getfield 92, 3) := by decide +kernel
theorem dX8_restore_39 : decode cX8_restore 39 = .ok (.getfield 106, 3) := by decide +kernel
theorem dX8_restore_42 : decode cX8_restore 42 = .ok (.ireturn, 1) := by decide +kernel
set_option maxRecDepth 20000 in
theorem ggX8_letter_X8_isLetter : GoodIn wsX8_letter wsX8_isLetter := goodIn_r _ [4] (by decide +kernel) (by decide +kernel)
set_option maxRecDepth 20000 in
theorem gX8_letter_X8_isLetter : GoodIn wsX8_letter (va_wsS RX8 144 yX8_isLetter wsX8_isLetter) := goodIn_app (goodIn_of _ (by decide +kernel)) ggX8_letter_X8_isLetter
set_option maxRecDepth 20000 in
theorem ggX8_letter_X8_letterNumber : GoodIn wsX8_letter wsX8_letterNumber := goodIn_r _ [7] (by decide +kernel) (by decide +kernel)
set_option maxRecDepth 20000 in
theorem gX8_letter_X8_letterNumber : GoodIn wsX8_letter (va_wsS RX8 147 yX8_letterNumber wsX8_letterNumber) := goodIn_app (goodIn_of _ (by decide +kernel)) ggX8_letter_X8_letterNumber
set_option maxRecDepth 20000 in
theorem ggX8_letter_X8_toldOfPart : GoodIn wsX8_letter wsX8_toldOfPart := goodIn_r _ [11, 12, 13, 14, 15, 16, 17, 18, 19, 3, 20, 21, 22, 23, 24, 25, 26, 27, 28, 29, 30, 31, 32, 33, 34, 35, 36, 37, 38, 39, 40, 41, 42, 43, 44, 45, 46, 47, 48, 49, 50, 51, 52, 53, 54, 55, 56, 57, 58, 59, 60, 61, 62, 63, 64, 65, 66, 67, 68, 69, 70, 71, 72] (by decide +kernel) (by decide +kernel)
set_option maxRecDepth 20000 in
theorem gX8_letter_X8_toldOfPart : GoodIn wsX8_letter (wsV RX8 151 RX8 yX8_toldOfPart wsX8_toldOfPart) := goodIn_app (goodIn_of _ (by decide +kernel)) ggX8_letter_X8_toldOfPart
theorem dX8_letter_0 : decode cX8_letter 0 = .ok (.iload_n 1, 1) := by decide +kernel
theorem dX8_letter_1 : decode cX8_letter 1 = .ok (.invokestatic 144, 3) := by decide +kernel
theorem dX8_letter_4 : decode cX8_letter 4 = .ok (.ifCond .ne 5, 3) := by decide +kernel
theorem dX8_letter_7 : decode cX8_letter 7 = .ok (.iconst (-1), 1) := by decide +kernel
theorem dX8_letter_8 : decode cX8_letter 8 = .ok (.ireturn, 1) := by decide +kernel
theorem dX8_letter_9 : decode cX8_letter 9 = .ok (.aload_n 0, 1) := by decide +kernel
theorem dX8_letter_10 : decode cX8_letter 10 = .ok (.iload_n 1, 1) := by decide +kernel
theorem dX8_letter_11 : decode cX8_letter 11 = .ok (.invokestatic 147, 3) := by decide +kernel
theorem dX8_letter_14 : decode cX8_letter 14 = .ok (.iload_n 2, 1) := by decide +kernel
theorem dX8_letter_15 : decode cX8_letter 15 = .ok (.invokevirtual 151, 3) := by decide +kernel
theorem dX8_letter_18 : decode cX8_letter 18 = .ok (.ireturn, 1) := by decide +kernel
set_option maxRecDepth 20000 in
theorem ggX8_join_X8_isLetter : GoodIn wsX8_join wsX8_isLetter := goodIn_r _ [4] (by decide +kernel) (by decide +kernel)
set_option maxRecDepth 20000 in
theorem gX8_join_X8_isLetter : GoodIn wsX8_join (va_wsS RX8 144 yX8_isLetter wsX8_isLetter) := goodIn_app (goodIn_of _ (by decide +kernel)) ggX8_join_X8_isLetter
set_option maxRecDepth 20000 in
theorem ggX8_join_X8_letterNumber : GoodIn wsX8_join wsX8_letterNumber := goodIn_r _ [7] (by decide +kernel) (by decide +kernel)
set_option maxRecDepth 20000 in
theorem gX8_join_X8_letterNumber : GoodIn wsX8_join (va_wsS RX8 147 yX8_letterNumber wsX8_letterNumber) := goodIn_app (goodIn_of _ (by decide +kernel)) ggX8_join_X8_letterNumber
set_option maxRecDepth 20000 in
theorem ggX8_join_X8_joinPart : GoodIn wsX8_join wsX8_joinPart := goodIn_r _ [10] (by decide +kernel) (by decide +kernel)
set_option maxRecDepth 20000 in
theorem gX8_join_X8_joinPart : GoodIn wsX8_join (va_wsS RX8 155 yX8_joinPart wsX8_joinPart) := goodIn_app (goodIn_of _ (by decide +kernel)) ggX8_join_X8_joinPart
set_option maxRecDepth 20000 in
theorem ggX8_join_X8_toldOfPart : GoodIn wsX8_join wsX8_toldOfPart := goodIn_r _ [14, 15, 16, 17, 18, 19, 20, 21, 22, 3, 23, 24, 25, 26, 27, 28, 29, 30, 31, 32, 33, 34, 35, 36, 37, 38, 39, 40, 41, 42, 43, 44, 45, 46, 47, 48, 49, 50, 51, 52, 53, 54, 55, 56, 57, 58, 59, 60, 61, 62, 63, 64, 65, 66, 67, 68, 69, 70, 71, 72, 73, 74, 75] (by decide +kernel) (by decide +kernel)
set_option maxRecDepth 20000 in
theorem gX8_join_X8_toldOfPart : GoodIn wsX8_join (wsV RX8 151 RX8 yX8_toldOfPart wsX8_toldOfPart) := goodIn_app (goodIn_of _ (by decide +kernel)) ggX8_join_X8_toldOfPart
theorem dX8_join_0 : decode cX8_join 0 = .ok (.iload_n 1, 1) := by decide +kernel
theorem dX8_join_1 : decode cX8_join 1 = .ok (.invokestatic 144, 3) := by decide +kernel
theorem dX8_join_4 : decode cX8_join 4 = .ok (.ifCond .eq 10, 3) := by decide +kernel
theorem dX8_join_7 : decode cX8_join 7 = .ok (.iload_n 2, 1) := by decide +kernel
theorem dX8_join_8 : decode cX8_join 8 = .ok (.invokestatic 144, 3) := by decide +kernel
theorem dX8_join_11 : decode cX8_join 11 = .ok (.ifCond .ne 5, 3) := by decide +kernel
theorem dX8_join_14 : decode cX8_join 14 = .ok (.iconst (-1), 1) := by decide +kernel
theorem dX8_join_15 : decode cX8_join 15 = .ok (.ireturn, 1) := by decide +kernel
theorem dX8_join_16 : decode cX8_join 16 = .ok (.aload_n 0, 1) := by decide +kernel
theorem dX8_join_17 : decode cX8_join 17 = .ok (.iload_n 1, 1) := by decide +kernel
theorem dX8_join_18 : decode cX8_join 18 = .ok (.invokestatic 147, 3) := by decide +kernel
theorem dX8_join_21 : decode cX8_join 21 = .ok (.iload_n 2, 1) := by decide +kernel
theorem dX8_join_22 : decode cX8_join 22 = .ok (.invokestatic 147, 3) := by decide +kernel
theorem dX8_join_25 : decode cX8_join 25 = .ok (.invokestatic 155, 3) := by decide +kernel
theorem dX8_join_28 : decode cX8_join 28 = .ok (.iload_n 3, 1) := by decide +kernel
theorem dX8_join_29 : decode cX8_join 29 = .ok (.invokevirtual 151, 3) := by decide +kernel
theorem dX8_join_32 : decode cX8_join 32 = .ok (.ireturn, 1) := by decide +kernel
set_option maxRecDepth 20000 in
theorem ggX8_word_X7_at : GoodIn wsX8_word wsX7_at := goodIn_r _ [7, 8, 9, 77, 78] (by decide +kernel) (by decide +kernel)
set_option maxRecDepth 20000 in
theorem gX8_word_X7_at : GoodIn wsX8_word (wsV RX8 109 RX7 yX7_at wsX7_at) := goodIn_app (goodIn_of _ (by decide +kernel)) ggX8_word_X7_at
set_option maxRecDepth 20000 in
theorem ggX8_word_X1_needOfAll : GoodIn wsX8_word wsX1_needOfAll := goodIn_r _ [14, 15, 16, 17, 13, 18, 19, 20, 21, 22, 23, 24, 25, 26, 27, 28, 29, 30, 31, 32, 33, 34, 35, 73, 74, 75, 76, 79, 80] (by decide +kernel) (by decide +kernel)
set_option maxRecDepth 20000 in
theorem gX8_word_X1_needOfAll : GoodIn wsX8_word (wsV RX8 161 RX1 yX1_needOfAll wsX1_needOfAll) := goodIn_app (goodIn_of _ (by decide +kernel)) ggX8_word_X1_needOfAll
set_option maxRecDepth 20000 in
theorem ggX8_word_X1_untriedOf : GoodIn wsX8_word wsX1_untriedOf := goodIn_r _ [39, 40, 41, 42, 13, 43, 31, 32, 33, 34, 35, 28, 29, 30, 73, 74, 75, 76, 79, 80] (by decide +kernel) (by decide +kernel)
set_option maxRecDepth 20000 in
theorem gX8_word_X1_untriedOf : GoodIn wsX8_word (wsV RX8 168 RX1 yX1_untriedOf wsX1_untriedOf) := goodIn_app (goodIn_of _ (by decide +kernel)) ggX8_word_X1_untriedOf
set_option maxRecDepth 20000 in
theorem ggX8_word_X3_clear : GoodIn wsX8_word wsX3_clear := goodIn_r _ [48, 49, 50, 51, 81, 82, 83, 84, 85] (by decide +kernel) (by decide +kernel)
set_option maxRecDepth 20000 in
theorem gX8_word_X3_clear : GoodIn wsX8_word (wsV RX8 171 RX3 yX3_clear wsX3_clear) := goodIn_app (goodIn_of _ (by decide +kernel)) ggX8_word_X3_clear
set_option maxRecDepth 20000 in
theorem ggX8_word_X3_gainOf : GoodIn wsX8_word wsX3_gainOf := goodIn_r _ [55, 49, 56, 41, 42, 13, 43, 31, 32, 33, 34, 35, 28, 29, 30, 57, 16, 17, 18, 19, 20, 21, 22, 23, 24, 25, 26, 27, 73, 74, 75, 76, 66, 67, 68, 69, 70, 71, 72, 81, 82, 83, 84, 85, 79, 80] (by decide +kernel) (by decide +kernel)
set_option maxRecDepth 20000 in
theorem gX8_word_X3_gainOf : GoodIn wsX8_word (wsV RX8 174 RX3 yX3_gainOf wsX3_gainOf) := goodIn_app (goodIn_of _ (by decide +kernel)) ggX8_word_X3_gainOf
theorem dX8_word_0 : decode cX8_word 0 = .ok (.aload_n 0, 1) := by decide +kernel
theorem dX8_word_1 : decode cX8_word 1 = .ok (.getfield 12, 3) := by decide +kernel
theorem dX8_word_4 : decode cX8_word 4 = .ok (.getfield 92, 3) := by decide +kernel
theorem dX8_word_7 : decode cX8_word 7 = .ok (.iload_n 1, 1) := by decide +kernel
theorem dX8_word_8 : decode cX8_word 8 = .ok (.invokevirtual 109, 3) := by decide +kernel
theorem dX8_word_11 : decode cX8_word 11 = .ok (.astore_n 3, 1) := by decide +kernel
theorem dX8_word_12 : decode cX8_word 12 = .ok (.aload_n 3, 1) := by decide +kernel
theorem dX8_word_13 : decode cX8_word 13 = .ok (.ifnonnull 5, 3) := by decide +kernel
theorem dX8_word_16 : decode cX8_word 16 = .ok (.iconst (-1), 1) := by decide +kernel
theorem dX8_word_17 : decode cX8_word 17 = .ok (.ireturn, 1) := by decide +kernel
theorem dX8_word_18 : decode cX8_word 18 = .ok (.iload_n 2, 1) := by decide +kernel
theorem dX8_word_19 : decode cX8_word 19 = .ok (.tableswitch 87 0 4 #[33, 38, 50, 55, 67], 33) := by decide +kernel
theorem dX8_word_52 : decode cX8_word 52 = .ok (.aload_n 3, 1) := by decide +kernel
theorem dX8_word_53 : decode cX8_word 53 = .ok (.getfield 158, 3) := by decide +kernel
theorem dX8_word_56 : decode cX8_word 56 = .ok (.ireturn, 1) := by decide +kernel
theorem dX8_word_57 : decode cX8_word 57 = .ok (.aload_n 0, 1) := by decide +kernel
theorem dX8_word_58 : decode cX8_word 58 = .ok (.getfield 12, 3) := by decide +kernel
theorem dX8_word_61 : decode cX8_word 61 = .ok (.getfield 62, 3) := by decide +kernel
theorem dX8_word_64 : decode cX8_word 64 = .ok (.aload_n 3, 1) := by decide +kernel
theorem dX8_word_65 : decode cX8_word 65 = .ok (.invokevirtual 161, 3) := by decide +kernel
theorem dX8_word_68 : decode cX8_word 68 = .ok (.ireturn, 1) := by decide +kernel
theorem dX8_word_69 : decode cX8_word 69 = .ok (.aload_n 3, 1) := by decide +kernel
theorem dX8_word_70 : decode cX8_word 70 = .ok (.getfield 165, 3) := by decide +kernel
theorem dX8_word_73 : decode cX8_word 73 = .ok (.ireturn, 1) := by decide +kernel
theorem dX8_word_74 : decode cX8_word 74 = .ok (.aload_n 0, 1) := by decide +kernel
theorem dX8_word_75 : decode cX8_word 75 = .ok (.getfield 12, 3) := by decide +kernel
theorem dX8_word_78 : decode cX8_word 78 = .ok (.getfield 62, 3) := by decide +kernel
theorem dX8_word_81 : decode cX8_word 81 = .ok (.aload_n 3, 1) := by decide +kernel
theorem dX8_word_82 : decode cX8_word 82 = .ok (.invokevirtual 168, 3) := by decide +kernel
theorem dX8_word_85 : decode cX8_word 85 = .ok (.ireturn, 1) := by decide +kernel
theorem dX8_word_86 : decode cX8_word 86 = .ok (.aload_n 0, 1) := by decide +kernel
theorem dX8_word_87 : decode cX8_word 87 = .ok (.getfield 39, 3) := by decide +kernel
theorem dX8_word_90 : decode cX8_word 90 = .ok (.invokevirtual 171, 3) := by decide +kernel
theorem dX8_word_93 : decode cX8_word 93 = .ok (.aload_n 0, 1) := by decide +kernel
theorem dX8_word_94 : decode cX8_word 94 = .ok (.getfield 39, 3) := by decide +kernel
theorem dX8_word_97 : decode cX8_word 97 = .ok (.aload_n 3, 1) := by decide +kernel
theorem dX8_word_98 : decode cX8_word 98 = .ok (.aload_n 0, 1) := by decide +kernel
theorem dX8_word_99 : decode cX8_word 99 = .ok (.getfield 12, 3) := by decide +kernel
theorem dX8_word_102 : decode cX8_word 102 = .ok (.invokevirtual 174, 3) := by decide +kernel
theorem dX8_word_105 : decode cX8_word 105 = .ok (.ireturn, 1) := by decide +kernel
theorem dX8_word_106 : decode cX8_word 106 = .ok (.bipush (-2), 2) := by decide +kernel
theorem dX8_word_108 : decode cX8_word 108 = .ok (.ireturn, 1) := by decide +kernel
set_option maxRecDepth 20000 in
theorem ggX8_letterOf_X7_at : GoodIn wsX8_letterOf wsX7_at := goodIn_r _ [6, 7, 8, 28, 29] (by decide +kernel) (by decide +kernel)
set_option maxRecDepth 20000 in
theorem gX8_letterOf_X7_at : GoodIn wsX8_letterOf (wsV RX8 109 RX7 yX7_at wsX7_at) := goodIn_app (goodIn_of _ (by decide +kernel)) ggX8_letterOf_X7_at
theorem dX8_letterOf_0 : decode cX8_letterOf 0 = .ok (.aload_n 0, 1) := by decide +kernel
theorem dX8_letterOf_1 : decode cX8_letterOf 1 = .ok (.getfield 12, 3) := by decide +kernel
theorem dX8_letterOf_4 : decode cX8_letterOf 4 = .ok (.getfield 92, 3) := by decide +kernel
theorem dX8_letterOf_7 : decode cX8_letterOf 7 = .ok (.iload_n 1, 1) := by decide +kernel
theorem dX8_letterOf_8 : decode cX8_letterOf 8 = .ok (.invokevirtual 109, 3) := by decide +kernel
theorem dX8_letterOf_11 : decode cX8_letterOf 11 = .ok (.astore_n 3, 1) := by decide +kernel
theorem dX8_letterOf_12 : decode cX8_letterOf 12 = .ok (.aload_n 3, 1) := by decide +kernel
theorem dX8_letterOf_13 : decode cX8_letterOf 13 = .ok (.ifnonnull 5, 3) := by decide +kernel
theorem dX8_letterOf_16 : decode cX8_letterOf 16 = .ok (.iconst (-1), 1) := by decide +kernel
theorem dX8_letterOf_17 : decode cX8_letterOf 17 = .ok (.ireturn, 1) := by decide +kernel
theorem dX8_letterOf_18 : decode cX8_letterOf 18 = .ok (.iload_n 2, 1) := by decide +kernel
theorem dX8_letterOf_19 : decode cX8_letterOf 19 = .ok (.ifCond .ge 6, 3) := by decide +kernel
theorem dX8_letterOf_22 : decode cX8_letterOf 22 = .ok (.bipush (-2), 2) := by decide +kernel
theorem dX8_letterOf_24 : decode cX8_letterOf 24 = .ok (.ireturn, 1) := by decide +kernel
theorem dX8_letterOf_25 : decode cX8_letterOf 25 = .ok (.iload_n 2, 1) := by decide +kernel
theorem dX8_letterOf_26 : decode cX8_letterOf 26 = .ok (.aload_n 3, 1) := by decide +kernel
theorem dX8_letterOf_27 : decode cX8_letterOf 27 = .ok (.getfield 158, 3) := by decide +kernel
theorem dX8_letterOf_30 : decode cX8_letterOf 30 = .ok (.if_icmp .ge 12, 3) := by decide +kernel
theorem dX8_letterOf_33 : decode cX8_letterOf 33 = .ok (.aload_n 3, 1) := by decide +kernel
theorem dX8_letterOf_34 : decode cX8_letterOf 34 = .ok (.getfield 178, 3) := by decide +kernel
theorem dX8_letterOf_37 : decode cX8_letterOf 37 = .ok (.iload_n 2, 1) := by decide +kernel
theorem dX8_letterOf_38 : decode cX8_letterOf 38 = .ok (.iaload, 1) := by decide +kernel
theorem dX8_letterOf_39 : decode cX8_letterOf 39 = .ok (.goto 5, 3) := by decide +kernel
theorem dX8_letterOf_42 : decode cX8_letterOf 42 = .ok (.bipush (-5), 2) := by decide +kernel
theorem dX8_letterOf_44 : decode cX8_letterOf 44 = .ok (.ireturn, 1) := by decide +kernel
set_option maxRecDepth 20000 in
theorem ggX8_sheet_X8_areLines : GoodIn wsX8_sheet wsX8_areLines := goodIn_r _ [6] (by decide +kernel) (by decide +kernel)
set_option maxRecDepth 20000 in
theorem gX8_sheet_X8_areLines : GoodIn wsX8_sheet (va_wsS RX8 117 yX8_areLines wsX8_areLines) := goodIn_app (goodIn_of _ (by decide +kernel)) ggX8_sheet_X8_areLines
set_option maxRecDepth 20000 in
theorem ggX8_sheet_X3_choose : GoodIn wsX8_sheet wsX3_choose := goodIn_r _ [11, 12, 13, 14, 10, 15, 16, 17, 18, 19, 20, 21, 22, 23, 24, 25, 26, 27, 28, 29, 30, 31, 32, 33, 34, 35, 36, 37, 5, 38, 39, 40, 41, 42, 43, 44, 45, 46, 47, 48, 49, 50, 51, 52, 53, 54, 55, 56, 57, 66, 67, 68, 69, 70, 71, 72, 73, 74, 75, 76, 77, 78, 79, 80, 81, 82, 83, 84, 85] (by decide +kernel) (by decide +kernel)
set_option maxRecDepth 20000 in
theorem gX8_sheet_X3_choose : GoodIn wsX8_sheet (wsV RX8 121 RX3 yX3_choose wsX3_choose) := goodIn_app (goodIn_of _ (by decide +kernel)) ggX8_sheet_X3_choose
theorem dX8_sheet_0 : decode cX8_sheet 0 = .ok (.iload_n 1, 1) := by decide +kernel
theorem dX8_sheet_1 : decode cX8_sheet 1 = .ok (.invokestatic 117, 3) := by decide +kernel
theorem dX8_sheet_4 : decode cX8_sheet 4 = .ok (.ifCond .eq 16, 3) := by decide +kernel
theorem dX8_sheet_7 : decode cX8_sheet 7 = .ok (.iload_n 2, 1) := by decide +kernel
theorem dX8_sheet_8 : decode cX8_sheet 8 = .ok (.ifCond .lt 12, 3) := by decide +kernel
theorem dX8_sheet_11 : decode cX8_sheet 11 = .ok (.iload_n 3, 1) := by decide +kernel
theorem dX8_sheet_12 : decode cX8_sheet 12 = .ok (.ifCond .lt 8, 3) := by decide +kernel
theorem dX8_sheet_15 : decode cX8_sheet 15 = .ok (.iload_n 3, 1) := by decide +kernel
theorem dX8_sheet_16 : decode cX8_sheet 16 = .ok (.iconst 1, 1) := by decide +kernel
theorem dX8_sheet_17 : decode cX8_sheet 17 = .ok (.if_icmp .le 6, 3) := by decide +kernel
theorem dX8_sheet_20 : decode cX8_sheet 20 = .ok (.bipush (-2), 2) := by decide +kernel
theorem dX8_sheet_22 : decode cX8_sheet 22 = .ok (.ireturn, 1) := by decide +kernel
theorem dX8_sheet_23 : decode cX8_sheet 23 = .ok (.aload_n 0, 1) := by decide +kernel
theorem dX8_sheet_24 : decode cX8_sheet 24 = .ok (.getfield 39, 3) := by decide +kernel
theorem dX8_sheet_27 : decode cX8_sheet 27 = .ok (.aload_n 0, 1) := by decide +kernel
theorem dX8_sheet_28 : decode cX8_sheet 28 = .ok (.getfield 12, 3) := by decide +kernel
theorem dX8_sheet_31 : decode cX8_sheet 31 = .ok (.iload_n 1, 1) := by decide +kernel
theorem dX8_sheet_32 : decode cX8_sheet 32 = .ok (.invokevirtual 121, 3) := by decide +kernel
theorem dX8_sheet_35 : decode cX8_sheet 35 = .ok (.iload_n 2, 1) := by decide +kernel
theorem dX8_sheet_36 : decode cX8_sheet 36 = .ok (.aload_n 0, 1) := by decide +kernel
theorem dX8_sheet_37 : decode cX8_sheet 37 = .ok (.getfield 39, 3) := by decide +kernel
theorem dX8_sheet_40 : decode cX8_sheet 40 = .ok (.getfield 125, 3) := by decide +kernel
theorem dX8_sheet_43 : decode cX8_sheet 43 = .ok (.if_icmp .lt 6, 3) := by decide +kernel
theorem dX8_sheet_46 : decode cX8_sheet 46 = .ok (.bipush (-5), 2) := by decide +kernel
theorem dX8_sheet_48 : decode cX8_sheet 48 = .ok (.ireturn, 1) := by decide +kernel
theorem dX8_sheet_49 : decode cX8_sheet 49 = .ok (.iload_n 3, 1) := by decide +kernel
theorem dX8_sheet_50 : decode cX8_sheet 50 = .ok (.ifCond .ne 15, 3) := by decide +kernel
theorem dX8_sheet_53 : decode cX8_sheet 53 = .ok (.aload_n 0, 1) := by decide +kernel
theorem dX8_sheet_54 : decode cX8_sheet 54 = .ok (.getfield 39, 3) := by decide +kernel
theorem dX8_sheet_57 : decode cX8_sheet 57 = .ok (.getfield 182, 3) := by decide +kernel
theorem dX8_sheet_60 : decode cX8_sheet 60 = .ok (.iload_n 2, 1) := by decide +kernel
theorem dX8_sheet_61 : decode cX8_sheet 61 = .ok (.iaload, 1) := by decide +kernel
theorem dX8_sheet_62 : decode cX8_sheet 62 = .ok (.goto 12, 3) := by decide +kernel
theorem dX8_sheet_65 : decode cX8_sheet 65 = .ok (.aload_n 0, 1) := by decide +kernel
theorem dX8_sheet_66 : decode cX8_sheet 66 = .ok (.getfield 39, 3) := by decide +kernel
theorem dX8_sheet_69 : decode cX8_sheet 69 = .ok (.getfield 184, 3) := by decide +kernel
theorem dX8_sheet_72 : decode cX8_sheet 72 = .ok (.iload_n 2, 1) := by decide +kernel
theorem dX8_sheet_73 : decode cX8_sheet 73 = .ok (.iaload, 1) := by decide +kernel
theorem dX8_sheet_74 : decode cX8_sheet 74 = .ok (.ireturn, 1) := by decide +kernel
set_option maxRecDepth 20000 in
theorem ggX8_covers_X8_areLines : GoodIn wsX8_covers wsX8_areLines := goodIn_r _ [6] (by decide +kernel) (by decide +kernel)
set_option maxRecDepth 20000 in
theorem gX8_covers_X8_areLines : GoodIn wsX8_covers (va_wsS RX8 117 yX8_areLines wsX8_areLines) := goodIn_app (goodIn_of _ (by decide +kernel)) ggX8_covers_X8_areLines
set_option maxRecDepth 20000 in
theorem ggX8_covers_X3_choose : GoodIn wsX8_covers wsX3_choose := goodIn_r _ [11, 12, 13, 14, 10, 15, 16, 17, 18, 19, 20, 21, 22, 23, 24, 25, 26, 27, 28, 29, 30, 31, 32, 33, 34, 35, 36, 37, 5, 38, 39, 40, 41, 42, 43, 44, 45, 46, 47, 48, 49, 50, 51, 52, 53, 54, 55, 56, 57, 78, 79, 80, 81, 82, 83, 84, 85, 86, 87, 88, 89, 90, 91, 92, 93, 94, 95, 96, 97] (by decide +kernel) (by decide +kernel)
set_option maxRecDepth 20000 in
theorem gX8_covers_X3_choose : GoodIn wsX8_covers (wsV RX8 121 RX3 yX3_choose wsX3_choose) := goodIn_app (goodIn_of _ (by decide +kernel)) ggX8_covers_X3_choose
set_option maxRecDepth 20000 in
theorem ggX8_covers_X3_coveredFrom : GoodIn wsX8_covers wsX3_coveredFrom := goodIn_r _ [61, 16, 78, 79, 80, 81, 82] (by decide +kernel) (by decide +kernel)
set_option maxRecDepth 20000 in
theorem gX8_covers_X3_coveredFrom : GoodIn wsX8_covers (wsV RX8 187 RX3 yX3_coveredFrom wsX3_coveredFrom) := goodIn_app (goodIn_of _ (by decide +kernel)) ggX8_covers_X3_coveredFrom
set_option maxRecDepth 20000 in
theorem ggX8_covers_X3_needCovered : GoodIn wsX8_covers wsX3_needCovered := goodIn_r _ [65, 16, 39, 40, 41, 30, 42, 43, 44, 45, 46, 47, 48, 49, 50, 51, 37, 5, 38, 32, 33, 34, 35, 36, 78, 79, 80, 81, 82, 96, 97] (by decide +kernel) (by decide +kernel)
set_option maxRecDepth 20000 in
theorem gX8_covers_X3_needCovered : GoodIn wsX8_covers (wsV RX8 190 RX3 yX3_needCovered wsX3_needCovered) := goodIn_app (goodIn_of _ (by decide +kernel)) ggX8_covers_X3_needCovered
set_option maxRecDepth 20000 in
theorem ggX8_covers_X3_sumOfGains : GoodIn wsX8_covers wsX3_sumOfGains := goodIn_r _ [69, 18, 57, 78, 79, 80, 81, 82] (by decide +kernel) (by decide +kernel)
set_option maxRecDepth 20000 in
theorem gX8_covers_X3_sumOfGains : GoodIn wsX8_covers (wsV RX8 193 RX3 yX3_sumOfGains wsX3_sumOfGains) := goodIn_app (goodIn_of _ (by decide +kernel)) ggX8_covers_X3_sumOfGains
theorem dX8_covers_0 : decode cX8_covers 0 = .ok (.iload_n 1, 1) := by decide +kernel
theorem dX8_covers_1 : decode cX8_covers 1 = .ok (.invokestatic 117, 3) := by decide +kernel
theorem dX8_covers_4 : decode cX8_covers 4 = .ok (.ifCond .eq 12, 3) := by decide +kernel
theorem dX8_covers_7 : decode cX8_covers 7 = .ok (.iload_n 2, 1) := by decide +kernel
theorem dX8_covers_8 : decode cX8_covers 8 = .ok (.ifCond .lt 8, 3) := by decide +kernel
theorem dX8_covers_11 : decode cX8_covers 11 = .ok (.iload_n 2, 1) := by decide +kernel
theorem dX8_covers_12 : decode cX8_covers 12 = .ok (.iconst 4, 1) := by decide +kernel
theorem dX8_covers_13 : decode cX8_covers 13 = .ok (.if_icmp .le 6, 3) := by decide +kernel
theorem dX8_covers_16 : decode cX8_covers 16 = .ok (.bipush (-2), 2) := by decide +kernel
theorem dX8_covers_18 : decode cX8_covers 18 = .ok (.ireturn, 1) := by decide +kernel
theorem dX8_covers_19 : decode cX8_covers 19 = .ok (.aload_n 0, 1) := by decide +kernel
theorem dX8_covers_20 : decode cX8_covers 20 = .ok (.getfield 39, 3) := by decide +kernel
theorem dX8_covers_23 : decode cX8_covers 23 = .ok (.aload_n 0, 1) := by decide +kernel
theorem dX8_covers_24 : decode cX8_covers 24 = .ok (.getfield 12, 3) := by decide +kernel
theorem dX8_covers_27 : decode cX8_covers 27 = .ok (.iload_n 1, 1) := by decide +kernel
theorem dX8_covers_28 : decode cX8_covers 28 = .ok (.invokevirtual 121, 3) := by decide +kernel
theorem dX8_covers_31 : decode cX8_covers 31 = .ok (.iload_n 2, 1) := by decide +kernel
theorem dX8_covers_32 : decode cX8_covers 32 = .ok (.tableswitch 79 0 3 #[32, 40, 51, 64], 32) := by decide +kernel
theorem dX8_covers_64 : decode cX8_covers 64 = .ok (.aload_n 0, 1) := by decide +kernel
theorem dX8_covers_65 : decode cX8_covers 65 = .ok (.getfield 39, 3) := by decide +kernel
theorem dX8_covers_68 : decode cX8_covers 68 = .ok (.getfield 125, 3) := by decide +kernel
theorem dX8_covers_71 : decode cX8_covers 71 = .ok (.ireturn, 1) := by decide +kernel
theorem dX8_covers_72 : decode cX8_covers 72 = .ok (.aload_n 0, 1) := by decide +kernel
theorem dX8_covers_73 : decode cX8_covers 73 = .ok (.getfield 39, 3) := by decide +kernel
theorem dX8_covers_76 : decode cX8_covers 76 = .ok (.iconst 0, 1) := by decide +kernel
theorem dX8_covers_77 : decode cX8_covers 77 = .ok (.bipush 26, 2) := by decide +kernel
theorem dX8_covers_79 : decode cX8_covers 79 = .ok (.invokevirtual 187, 3) := by decide +kernel
theorem dX8_covers_82 : decode cX8_covers 82 = .ok (.ireturn, 1) := by decide +kernel
theorem dX8_covers_83 : decode cX8_covers 83 = .ok (.aload_n 0, 1) := by decide +kernel
theorem dX8_covers_84 : decode cX8_covers 84 = .ok (.getfield 39, 3) := by decide +kernel
theorem dX8_covers_87 : decode cX8_covers 87 = .ok (.bipush 26, 2) := by decide +kernel
theorem dX8_covers_89 : decode cX8_covers 89 = .ok (.sipush 702, 3) := by decide +kernel
theorem dX8_covers_92 : decode cX8_covers 92 = .ok (.invokevirtual 187, 3) := by decide +kernel
theorem dX8_covers_95 : decode cX8_covers 95 = .ok (.ireturn, 1) := by decide +kernel
theorem dX8_covers_96 : decode cX8_covers 96 = .ok (.aload_n 0, 1) := by decide +kernel
theorem dX8_covers_97 : decode cX8_covers 97 = .ok (.getfield 39, 3) := by decide +kernel
theorem dX8_covers_100 : decode cX8_covers 100 = .ok (.aload_n 0, 1) := by decide +kernel
theorem dX8_covers_101 : decode cX8_covers 101 = .ok (.getfield 12, 3) := by decide +kernel
theorem dX8_covers_104 : decode cX8_covers 104 = .ok (.getfield 62, 3) := by decide +kernel
theorem dX8_covers_107 : decode cX8_covers 107 = .ok (.invokevirtual 190, 3) := by decide +kernel
theorem dX8_covers_110 : decode cX8_covers 110 = .ok (.ireturn, 1) := by decide +kernel
theorem dX8_covers_111 : decode cX8_covers 111 = .ok (.aload_n 0, 1) := by decide +kernel
theorem dX8_covers_112 : decode cX8_covers 112 = .ok (.getfield 39, 3) := by decide +kernel
theorem dX8_covers_115 : decode cX8_covers 115 = .ok (.invokevirtual 193, 3) := by decide +kernel
theorem dX8_covers_118 : decode cX8_covers 118 = .ok (.ireturn, 1) := by decide +kernel
set_option maxRecDepth 20000 in
theorem ggX8_worst_X8_firstPart : GoodIn wsX8_worst wsX8_firstPart := goodIn_r _ [6] (by decide +kernel) (by decide +kernel)
set_option maxRecDepth 20000 in
theorem gX8_worst_X8_firstPart : GoodIn wsX8_worst (va_wsS RX8 196 yX8_firstPart wsX8_firstPart) := goodIn_app (goodIn_of _ (by decide +kernel)) ggX8_worst_X8_firstPart
set_option maxRecDepth 20000 in
theorem ggX8_worst_X8_endOfParts : GoodIn wsX8_worst wsX8_endOfParts := goodIn_r _ [9] (by decide +kernel) (by decide +kernel)
set_option maxRecDepth 20000 in
theorem gX8_worst_X8_endOfParts : GoodIn wsX8_worst (va_wsS RX8 200 yX8_endOfParts wsX8_endOfParts) := goodIn_app (goodIn_of _ (by decide +kernel)) ggX8_worst_X8_endOfParts
set_option maxRecDepth 20000 in
theorem ggX8_worst_X2_partAt : GoodIn wsX8_worst wsX2_partAt := goodIn_r _ [14, 15, 16, 17, 18, 13, 19, 20, 21, 22, 23, 24, 25, 26, 27, 28, 29, 30, 31, 32, 33, 34, 5, 35, 36, 37, 38, 39, 40, 41, 42, 43, 59, 60, 61] (by decide +kernel) (by decide +kernel)
set_option maxRecDepth 20000 in
theorem gX8_worst_X2_partAt : GoodIn wsX8_worst (wsV RX8 203 RX2 yX2_partAt wsX2_partAt) := goodIn_app (goodIn_of _ (by decide +kernel)) ggX8_worst_X2_partAt
theorem dX8_worst_0 : decode cX8_worst 0 = .ok (.iload_n 2, 1) := by decide +kernel
theorem dX8_worst_1 : decode cX8_worst 1 = .ok (.ifCond .ge 6, 3) := by decide +kernel
theorem dX8_worst_4 : decode cX8_worst 4 = .ok (.bipush (-2), 2) := by decide +kernel
theorem dX8_worst_6 : decode cX8_worst 6 = .ok (.ireturn, 1) := by decide +kernel
theorem dX8_worst_7 : decode cX8_worst 7 = .ok (.iload_n 1, 1) := by decide +kernel
theorem dX8_worst_8 : decode cX8_worst 8 = .ok (.invokestatic 196, 3) := by decide +kernel
theorem dX8_worst_11 : decode cX8_worst 11 = .ok (.istore_n 3, 1) := by decide +kernel
theorem dX8_worst_12 : decode cX8_worst 12 = .ok (.aload_n 0, 1) := by decide +kernel
theorem dX8_worst_13 : decode cX8_worst 13 = .ok (.getfield 46, 3) := by decide +kernel
theorem dX8_worst_16 : decode cX8_worst 16 = .ok (.aload_n 0, 1) := by decide +kernel
theorem dX8_worst_17 : decode cX8_worst 17 = .ok (.getfield 12, 3) := by decide +kernel
theorem dX8_worst_20 : decode cX8_worst 20 = .ok (.getfield 62, 3) := by decide +kernel
theorem dX8_worst_23 : decode cX8_worst 23 = .ok (.iload_n 3, 1) := by decide +kernel
theorem dX8_worst_24 : decode cX8_worst 24 = .ok (.iload_n 1, 1) := by decide +kernel
theorem dX8_worst_25 : decode cX8_worst 25 = .ok (.invokestatic 200, 3) := by decide +kernel
theorem dX8_worst_28 : decode cX8_worst 28 = .ok (.iload_n 2, 1) := by decide +kernel
theorem dX8_worst_29 : decode cX8_worst 29 = .ok (.invokevirtual 203, 3) := by decide +kernel
theorem dX8_worst_32 : decode cX8_worst 32 = .ok (.istore 4, 2) := by decide +kernel
theorem dX8_worst_34 : decode cX8_worst 34 = .ok (.iload 4, 2) := by decide +kernel
theorem dX8_worst_36 : decode cX8_worst 36 = .ok (.bipush (-5), 2) := by decide +kernel
theorem dX8_worst_38 : decode cX8_worst 38 = .ok (.if_icmp .ne 8, 3) := by decide +kernel
theorem dX8_worst_41 : decode cX8_worst 41 = .ok (.bipush (-5), 2) := by decide +kernel
theorem dX8_worst_43 : decode cX8_worst 43 = .ok (.goto 7, 3) := by decide +kernel
theorem dX8_worst_46 : decode cX8_worst 46 = .ok (.iload 4, 2) := by decide +kernel
theorem dX8_worst_48 : decode cX8_worst 48 = .ok (.iload_n 3, 1) := by decide +kernel
theorem dX8_worst_49 : decode cX8_worst 49 = .ok (.isub, 1) := by decide +kernel
theorem dX8_worst_50 : decode cX8_worst 50 = .ok (.ireturn, 1) := by decide +kernel
set_option maxRecDepth 20000 in
theorem ggX8_missing_X8_endOfParts : GoodIn wsX8_missing wsX8_endOfParts := goodIn_r _ [5] (by decide +kernel) (by decide +kernel)
set_option maxRecDepth 20000 in
theorem gX8_missing_X8_endOfParts : GoodIn wsX8_missing (va_wsS RX8 200 yX8_endOfParts wsX8_endOfParts) := goodIn_app (goodIn_of _ (by decide +kernel)) ggX8_missing_X8_endOfParts
set_option maxRecDepth 20000 in
theorem ggX8_missing_X8_firstPart : GoodIn wsX8_missing wsX8_firstPart := goodIn_r _ [8] (by decide +kernel) (by decide +kernel)
set_option maxRecDepth 20000 in
theorem gX8_missing_X8_firstPart : GoodIn wsX8_missing (va_wsS RX8 196 yX8_firstPart wsX8_firstPart) := goodIn_app (goodIn_of _ (by decide +kernel)) ggX8_missing_X8_firstPart
set_option maxRecDepth 20000 in
theorem ggX8_missing_X1_needOf : GoodIn wsX8_missing wsX1_needOf := goodIn_r _ [13, 14, 15, 16, 17, 18, 19, 20, 12, 21, 22, 23, 4, 24, 25, 26, 27, 28, 29, 59, 60] (by decide +kernel) (by decide +kernel)
set_option maxRecDepth 20000 in
theorem gX8_missing_X1_needOf : GoodIn wsX8_missing (wsV RX8 207 RX1 yX1_needOf wsX1_needOf) := goodIn_app (goodIn_of _ (by decide +kernel)) ggX8_missing_X1_needOf
set_option maxRecDepth 20000 in
theorem ggX8_missing_X7_howManyHave : GoodIn wsX8_missing wsX7_howManyHave := goodIn_r _ [34, 35, 36, 37, 38, 39, 40, 41, 42, 43, 61, 62, 63, 64, 65, 66] (by decide +kernel) (by decide +kernel)
set_option maxRecDepth 20000 in
theorem gX8_missing_X7_howManyHave : GoodIn wsX8_missing (wsV RX8 210 RX7 yX7_howManyHave wsX7_howManyHave) := goodIn_app (goodIn_of _ (by decide +kernel)) ggX8_missing_X7_howManyHave
theorem dX8_missing_0 : decode cX8_missing 0 = .ok (.iload_n 1, 1) := by decide +kernel
theorem dX8_missing_1 : decode cX8_missing 1 = .ok (.invokestatic 200, 3) := by decide +kernel
theorem dX8_missing_4 : decode cX8_missing 4 = .ok (.istore_n 2, 1) := by decide +kernel
theorem dX8_missing_5 : decode cX8_missing 5 = .ok (.iconst 0, 1) := by decide +kernel
theorem dX8_missing_6 : decode cX8_missing 6 = .ok (.istore_n 3, 1) := by decide +kernel
theorem dX8_missing_7 : decode cX8_missing 7 = .ok (.iload_n 1, 1) := by decide +kernel
theorem dX8_missing_8 : decode cX8_missing 8 = .ok (.invokestatic 196, 3) := by decide +kernel
theorem dX8_missing_11 : decode cX8_missing 11 = .ok (.istore 4, 2) := by decide +kernel
theorem dX8_missing_13 : decode cX8_missing 13 = .ok (.iload 4, 2) := by decide +kernel
theorem dX8_missing_15 : decode cX8_missing 15 = .ok (.iload_n 2, 1) := by decide +kernel
theorem dX8_missing_16 : decode cX8_missing 16 = .ok (.if_icmp .ge 42, 3) := by decide +kernel
theorem dX8_missing_19 : decode cX8_missing 19 = .ok (.aload_n 0, 1) := by decide +kernel
theorem dX8_missing_20 : decode cX8_missing 20 = .ok (.getfield 12, 3) := by decide +kernel
theorem dX8_missing_23 : decode cX8_missing 23 = .ok (.getfield 62, 3) := by decide +kernel
theorem dX8_missing_26 : decode cX8_missing 26 = .ok (.iload 4, 2) := by decide +kernel
theorem dX8_missing_28 : decode cX8_missing 28 = .ok (.invokevirtual 207, 3) := by decide +kernel
theorem dX8_missing_31 : decode cX8_missing 31 = .ok (.ifCond .le 21, 3) := by decide +kernel
theorem dX8_missing_34 : decode cX8_missing 34 = .ok (.aload_n 0, 1) := by decide +kernel
theorem dX8_missing_35 : decode cX8_missing 35 = .ok (.getfield 12, 3) := by decide +kernel
theorem dX8_missing_38 : decode cX8_missing 38 = .ok (.getfield 92, 3) := by decide +kernel
theorem dX8_missing_41 : decode cX8_missing 41 = .ok (.iload 4, 2) := by decide +kernel
theorem dX8_missing_43 : decode cX8_missing 43 = .ok (.invokevirtual 210, 3) := by decide +kernel
theorem dX8_missing_46 : decode cX8_missing 46 = .ok (.ifCond .ne 6, 3) := by decide +kernel
theorem dX8_missing_49 : decode cX8_missing 49 = .ok (.iinc 3 1, 3) := by decide +kernel
theorem dX8_missing_52 : decode cX8_missing 52 = .ok (.iinc 4 1, 3) := by decide +kernel
theorem dX8_missing_55 : decode cX8_missing 55 = .ok (.goto (-42), 3) := by decide +kernel
theorem dX8_missing_58 : decode cX8_missing 58 = .ok (.iload_n 3, 1) := by decide +kernel
theorem dX8_missing_59 : decode cX8_missing 59 = .ok (.ireturn, 1) := by decide +kernel
set_option maxRecDepth 20000 in
theorem ggX8_sheetsTo_X8_areLines : GoodIn wsX8_sheetsTo wsX8_areLines := goodIn_r _ [7] (by decide +kernel) (by decide +kernel)
set_option maxRecDepth 20000 in
theorem gX8_sheetsTo_X8_areLines : GoodIn wsX8_sheetsTo (va_wsS RX8 117 yX8_areLines wsX8_areLines) := goodIn_app (goodIn_of _ (by decide +kernel)) ggX8_sheetsTo_X8_areLines
set_option maxRecDepth 20000 in
theorem ggX8_sheetsTo_X4_copyFrom : GoodIn wsX8_sheetsTo wsX4_copyFrom := goodIn_r _ [12, 13, 14, 15, 16, 17, 18, 19, 20, 21, 22, 23, 24, 25, 26, 27, 28, 29, 30, 31, 32, 33, 34, 35, 36, 37, 38, 39, 40, 41, 42, 43, 44, 45, 46, 47, 137, 138, 139, 140, 141, 142, 143, 144, 145, 146, 147, 148, 149, 150, 151] (by decide +kernel) (by decide +kernel)
set_option maxRecDepth 20000 in
theorem gX8_sheetsTo_X4_copyFrom : GoodIn wsX8_sheetsTo (wsV RX8 142 RX4 yX4_copyFrom wsX4_copyFrom) := goodIn_app (goodIn_of _ (by decide +kernel)) ggX8_sheetsTo_X4_copyFrom
set_option maxRecDepth 20000 in
theorem ggX8_sheetsTo_X4_greatestNeedOfWords : GoodIn wsX8_sheetsTo wsX4_greatestNeedOfWords := goodIn_r _ [51, 14, 13, 52, 53, 54, 55, 56, 57, 58, 23, 59, 60, 61, 62, 63, 64, 65, 66, 67, 68, 30, 69, 6, 70, 71, 72, 73, 74, 25, 137, 138, 139, 140, 141, 142, 143, 146, 147, 148, 149, 150, 151, 144, 145] (by decide +kernel) (by decide +kernel)
set_option maxRecDepth 20000 in
theorem gX8_sheetsTo_X4_greatestNeedOfWords : GoodIn wsX8_sheetsTo (wsV RX8 213 RX4 yX4_greatestNeedOfWords wsX4_greatestNeedOfWords) := goodIn_app (goodIn_of _ (by decide +kernel)) ggX8_sheetsTo_X4_greatestNeedOfWords
set_option maxRecDepth 20000 in
theorem ggX8_sheetsTo_X3_choose : GoodIn wsX8_sheetsTo wsX3_choose := goodIn_r _ [79, 80, 81, 82, 78, 83, 84, 85, 86, 87, 88, 89, 90, 91, 92, 93, 94, 95, 96, 97, 23, 98, 71, 72, 73, 74, 25, 69, 6, 70, 99, 62, 63, 64, 60, 53, 54, 55, 65, 66, 67, 68, 30, 100, 101, 102, 103, 104, 105, 132, 133, 134, 135, 136, 137, 138, 139, 140, 141, 142, 143, 146, 147, 148, 149, 150, 151, 144, 145] (by decide +kernel) (by decide +kernel)
set_option maxRecDepth 20000 in
theorem gX8_sheetsTo_X3_choose : GoodIn wsX8_sheetsTo (wsV RX8 121 RX3 yX3_choose wsX3_choose) := goodIn_app (goodIn_of _ (by decide +kernel)) ggX8_sheetsTo_X3_choose
set_option maxRecDepth 20000 in
theorem ggX8_sheetsTo_X4_practise : GoodIn wsX8_sheetsTo wsX4_practise := goodIn_r _ [109, 14, 13, 17, 19, 110, 111, 112, 34, 113, 36, 37, 114, 115, 116, 23, 117, 118, 119, 120, 121, 25, 69, 6, 70, 122, 123, 132, 133, 134, 135, 136, 137, 138, 139, 140, 141, 142, 143, 146, 147, 148, 149, 150, 151, 144, 145] (by decide +kernel) (by decide +kernel)
set_option maxRecDepth 20000 in
theorem gX8_sheetsTo_X4_practise : GoodIn wsX8_sheetsTo (wsV RX8 126 RX4 yX4_practise wsX4_practise) := goodIn_app (goodIn_of _ (by decide +kernel)) ggX8_sheetsTo_X4_practise
theorem dX8_sheetsTo_0 : decode cX8_sheetsTo 0 = .ok (.iload_n 1, 1) := by decide +kernel
theorem dX8_sheetsTo_1 : decode cX8_sheetsTo 1 = .ok (.invokestatic 117, 3) := by decide +kernel
theorem dX8_sheetsTo_4 : decode cX8_sheetsTo 4 = .ok (.ifCond .eq 13, 3) := by decide +kernel
theorem dX8_sheetsTo_7 : decode cX8_sheetsTo 7 = .ok (.iload_n 2, 1) := by decide +kernel
theorem dX8_sheetsTo_8 : decode cX8_sheetsTo 8 = .ok (.ifCond .lt 9, 3) := by decide +kernel
theorem dX8_sheetsTo_11 : decode cX8_sheetsTo 11 = .ok (.iload_n 2, 1) := by decide +kernel
theorem dX8_sheetsTo_12 : decode cX8_sheetsTo 12 = .ok (.bipush 99, 2) := by decide +kernel
theorem dX8_sheetsTo_14 : decode cX8_sheetsTo 14 = .ok (.if_icmp .le 6, 3) := by decide +kernel
theorem dX8_sheetsTo_17 : decode cX8_sheetsTo 17 = .ok (.bipush (-2), 2) := by decide +kernel
theorem dX8_sheetsTo_19 : decode cX8_sheetsTo 19 = .ok (.ireturn, 1) := by decide +kernel
theorem dX8_sheetsTo_20 : decode cX8_sheetsTo 20 = .ok (.aload_n 0, 1) := by decide +kernel
theorem dX8_sheetsTo_21 : decode cX8_sheetsTo 21 = .ok (.getfield 19, 3) := by decide +kernel
theorem dX8_sheetsTo_24 : decode cX8_sheetsTo 24 = .ok (.aload_n 0, 1) := by decide +kernel
theorem dX8_sheetsTo_25 : decode cX8_sheetsTo 25 = .ok (.getfield 12, 3) := by decide +kernel
theorem dX8_sheetsTo_28 : decode cX8_sheetsTo 28 = .ok (.invokevirtual 142, 3) := by decide +kernel
theorem dX8_sheetsTo_31 : decode cX8_sheetsTo 31 = .ok (.iconst 0, 1) := by decide +kernel
theorem dX8_sheetsTo_32 : decode cX8_sheetsTo 32 = .ok (.istore_n 3, 1) := by decide +kernel
theorem dX8_sheetsTo_33 : decode cX8_sheetsTo 33 = .ok (.iload_n 3, 1) := by decide +kernel
theorem dX8_sheetsTo_34 : decode cX8_sheetsTo 34 = .ok (.bipush 20, 2) := by decide +kernel
theorem dX8_sheetsTo_36 : decode cX8_sheetsTo 36 = .ok (.if_icmp .gt 58, 3) := by decide +kernel
theorem dX8_sheetsTo_39 : decode cX8_sheetsTo 39 = .ok (.aload_n 0, 1) := by decide +kernel
theorem dX8_sheetsTo_40 : decode cX8_sheetsTo 40 = .ok (.getfield 19, 3) := by decide +kernel
theorem dX8_sheetsTo_43 : decode cX8_sheetsTo 43 = .ok (.invokevirtual 213, 3) := by decide +kernel
theorem dX8_sheetsTo_46 : decode cX8_sheetsTo 46 = .ok (.iload_n 2, 1) := by decide +kernel
theorem dX8_sheetsTo_47 : decode cX8_sheetsTo 47 = .ok (.if_icmp .gt 5, 3) := by decide +kernel
theorem dX8_sheetsTo_50 : decode cX8_sheetsTo 50 = .ok (.iload_n 3, 1) := by decide +kernel
theorem dX8_sheetsTo_51 : decode cX8_sheetsTo 51 = .ok (.ireturn, 1) := by decide +kernel
theorem dX8_sheetsTo_52 : decode cX8_sheetsTo 52 = .ok (.aload_n 0, 1) := by decide +kernel
theorem dX8_sheetsTo_53 : decode cX8_sheetsTo 53 = .ok (.getfield 39, 3) := by decide +kernel
theorem dX8_sheetsTo_56 : decode cX8_sheetsTo 56 = .ok (.aload_n 0, 1) := by decide +kernel
theorem dX8_sheetsTo_57 : decode cX8_sheetsTo 57 = .ok (.getfield 19, 3) := by decide +kernel
theorem dX8_sheetsTo_60 : decode cX8_sheetsTo 60 = .ok (.iload_n 1, 1) := by decide +kernel
theorem dX8_sheetsTo_61 : decode cX8_sheetsTo 61 = .ok (.invokevirtual 121, 3) := by decide +kernel
theorem dX8_sheetsTo_64 : decode cX8_sheetsTo 64 = .ok (.aload_n 0, 1) := by decide +kernel
theorem dX8_sheetsTo_65 : decode cX8_sheetsTo 65 = .ok (.getfield 39, 3) := by decide +kernel
theorem dX8_sheetsTo_68 : decode cX8_sheetsTo 68 = .ok (.getfield 125, 3) := by decide +kernel
theorem dX8_sheetsTo_71 : decode cX8_sheetsTo 71 = .ok (.ifCond .ne 6, 3) := by decide +kernel
theorem dX8_sheetsTo_74 : decode cX8_sheetsTo 74 = .ok (.bipush (-5), 2) := by decide +kernel
theorem dX8_sheetsTo_76 : decode cX8_sheetsTo 76 = .ok (.ireturn, 1) := by decide +kernel
theorem dX8_sheetsTo_77 : decode cX8_sheetsTo 77 = .ok (.aload_n 0, 1) := by decide +kernel
theorem dX8_sheetsTo_78 : decode cX8_sheetsTo 78 = .ok (.getfield 19, 3) := by decide +kernel
theorem dX8_sheetsTo_81 : decode cX8_sheetsTo 81 = .ok (.aload_n 0, 1) := by decide +kernel
theorem dX8_sheetsTo_82 : decode cX8_sheetsTo 82 = .ok (.getfield 39, 3) := by decide +kernel
theorem dX8_sheetsTo_85 : decode cX8_sheetsTo 85 = .ok (.invokevirtual 126, 3) := by decide +kernel
theorem dX8_sheetsTo_88 : decode cX8_sheetsTo 88 = .ok (.iinc 3 1, 3) := by decide +kernel
theorem dX8_sheetsTo_91 : decode cX8_sheetsTo 91 = .ok (.goto (-58), 3) := by decide +kernel
theorem dX8_sheetsTo_94 : decode cX8_sheetsTo 94 = .ok (.bipush (-5), 2) := by decide +kernel
theorem dX8_sheetsTo_96 : decode cX8_sheetsTo 96 = .ok (.ireturn, 1) := by decide +kernel
set_option maxRecDepth 20000 in
theorem ggX8_count_X1_triedFrom : GoodIn wsX8_count wsX1_triedFrom := goodIn_r _ [8, 9, 10, 11, 7, 12, 13, 14, 15, 16, 17, 18, 19, 20, 60, 61] (by decide +kernel) (by decide +kernel)
set_option maxRecDepth 20000 in
theorem gX8_count_X1_triedFrom : GoodIn wsX8_count (wsV RX8 216 RX1 yX1_triedFrom wsX1_triedFrom) := goodIn_app (goodIn_of _ (by decide +kernel)) ggX8_count_X1_triedFrom
set_option maxRecDepth 20000 in
theorem ggX8_count_X1_greatestNeedFrom : GoodIn wsX8_count wsX1_greatestNeedFrom := goodIn_r _ [24, 25, 26, 27, 28, 29, 30, 31, 7, 32, 33, 34, 35, 36, 37, 18, 19, 20, 13, 14, 15, 16, 17, 60, 61] (by decide +kernel) (by decide +kernel)
set_option maxRecDepth 20000 in
theorem gX8_count_X1_greatestNeedFrom : GoodIn wsX8_count (wsV RX8 219 RX1 yX1_greatestNeedFrom wsX1_greatestNeedFrom) := goodIn_app (goodIn_of _ (by decide +kernel)) ggX8_count_X1_greatestNeedFrom
theorem dX8_count_0 : decode cX8_count 0 = .ok (.iload_n 1, 1) := by decide +kernel
theorem dX8_count_1 : decode cX8_count 1 = .ok (.tableswitch 193 0 11 #[63, 74, 82, 90, 107, 123, 137, 153, 161, 169, 177, 185], 63) := by decide +kernel
theorem dX8_count_64 : decode cX8_count 64 = .ok (.aload_n 0, 1) := by decide +kernel
theorem dX8_count_65 : decode cX8_count 65 = .ok (.getfield 12, 3) := by decide +kernel
theorem dX8_count_68 : decode cX8_count 68 = .ok (.getfield 92, 3) := by decide +kernel
theorem dX8_count_71 : decode cX8_count 71 = .ok (.getfield 106, 3) := by decide +kernel
theorem dX8_count_74 : decode cX8_count 74 = .ok (.ireturn, 1) := by decide +kernel
theorem dX8_count_75 : decode cX8_count 75 = .ok (.aload_n 0, 1) := by decide +kernel
theorem dX8_count_76 : decode cX8_count 76 = .ok (.getfield 12, 3) := by decide +kernel
theorem dX8_count_79 : decode cX8_count 79 = .ok (.getfield 77, 3) := by decide +kernel
theorem dX8_count_82 : decode cX8_count 82 = .ok (.ireturn, 1) := by decide +kernel
theorem dX8_count_83 : decode cX8_count 83 = .ok (.aload_n 0, 1) := by decide +kernel
theorem dX8_count_84 : decode cX8_count 84 = .ok (.getfield 12, 3) := by decide +kernel
theorem dX8_count_87 : decode cX8_count 87 = .ok (.getfield 86, 3) := by decide +kernel
theorem dX8_count_90 : decode cX8_count 90 = .ok (.ireturn, 1) := by decide +kernel
theorem dX8_count_91 : decode cX8_count 91 = .ok (.bipush 26, 2) := by decide +kernel
theorem dX8_count_93 : decode cX8_count 93 = .ok (.aload_n 0, 1) := by decide +kernel
theorem dX8_count_94 : decode cX8_count 94 = .ok (.getfield 12, 3) := by decide +kernel
theorem dX8_count_97 : decode cX8_count 97 = .ok (.getfield 62, 3) := by decide +kernel
theorem dX8_count_100 : decode cX8_count 100 = .ok (.iconst 0, 1) := by decide +kernel
theorem dX8_count_101 : decode cX8_count 101 = .ok (.bipush 26, 2) := by decide +kernel
theorem dX8_count_103 : decode cX8_count 103 = .ok (.invokevirtual 216, 3) := by decide +kernel
theorem dX8_count_106 : decode cX8_count 106 = .ok (.isub, 1) := by decide +kernel
theorem dX8_count_107 : decode cX8_count 107 = .ok (.ireturn, 1) := by decide +kernel
theorem dX8_count_108 : decode cX8_count 108 = .ok (.aload_n 0, 1) := by decide +kernel
theorem dX8_count_109 : decode cX8_count 109 = .ok (.getfield 12, 3) := by decide +kernel
theorem dX8_count_112 : decode cX8_count 112 = .ok (.getfield 62, 3) := by decide +kernel
theorem dX8_count_115 : decode cX8_count 115 = .ok (.bipush 26, 2) := by decide +kernel
theorem dX8_count_117 : decode cX8_count 117 = .ok (.sipush 702, 3) := by decide +kernel
theorem dX8_count_120 : decode cX8_count 120 = .ok (.invokevirtual 216, 3) := by decide +kernel
theorem dX8_count_123 : decode cX8_count 123 = .ok (.ireturn, 1) := by decide +kernel
theorem dX8_count_124 : decode cX8_count 124 = .ok (.aload_n 0, 1) := by decide +kernel
theorem dX8_count_125 : decode cX8_count 125 = .ok (.getfield 12, 3) := by decide +kernel
theorem dX8_count_128 : decode cX8_count 128 = .ok (.getfield 62, 3) := by decide +kernel
theorem dX8_count_131 : decode cX8_count 131 = .ok (.iconst 0, 1) := by decide +kernel
theorem dX8_count_132 : decode cX8_count 132 = .ok (.bipush 26, 2) := by decide +kernel
theorem dX8_count_134 : decode cX8_count 134 = .ok (.invokevirtual 219, 3) := by decide +kernel
theorem dX8_count_137 : decode cX8_count 137 = .ok (.ireturn, 1) := by decide +kernel
theorem dX8_count_138 : decode cX8_count 138 = .ok (.aload_n 0, 1) := by decide +kernel
theorem dX8_count_139 : decode cX8_count 139 = .ok (.getfield 12, 3) := by decide +kernel
theorem dX8_count_142 : decode cX8_count 142 = .ok (.getfield 62, 3) := by decide +kernel
theorem dX8_count_145 : decode cX8_count 145 = .ok (.bipush 26, 2) := by decide +kernel
theorem dX8_count_147 : decode cX8_count 147 = .ok (.sipush 702, 3) := by decide +kernel
theorem dX8_count_150 : decode cX8_count 150 = .ok (.invokevirtual 219, 3) := by decide +kernel
theorem dX8_count_153 : decode cX8_count 153 = .ok (.ireturn, 1) := by decide +kernel
theorem dX8_count_154 : decode cX8_count 154 = .ok (.aload_n 0, 1) := by decide +kernel
theorem dX8_count_155 : decode cX8_count 155 = .ok (.getfield 12, 3) := by decide +kernel
theorem dX8_count_158 : decode cX8_count 158 = .ok (.getfield 70, 3) := by decide +kernel
theorem dX8_count_161 : decode cX8_count 161 = .ok (.ireturn, 1) := by decide +kernel
theorem dX8_count_162 : decode cX8_count 162 = .ok (.aload_n 0, 1) := by decide +kernel
theorem dX8_count_163 : decode cX8_count 163 = .ok (.getfield 12, 3) := by decide +kernel
theorem dX8_count_166 : decode cX8_count 166 = .ok (.getfield 74, 3) := by decide +kernel
theorem dX8_count_169 : decode cX8_count 169 = .ok (.ireturn, 1) := by decide +kernel
theorem dX8_count_170 : decode cX8_count 170 = .ok (.aload_n 0, 1) := by decide +kernel
theorem dX8_count_171 : decode cX8_count 171 = .ok (.getfield 12, 3) := by decide +kernel
theorem dX8_count_174 : decode cX8_count 174 = .ok (.getfield 222, 3) := by decide +kernel
theorem dX8_count_177 : decode cX8_count 177 = .ok (.ireturn, 1) := by decide +kernel
theorem dX8_count_178 : decode cX8_count 178 = .ok (.aload_n 0, 1) := by decide +kernel
theorem dX8_count_179 : decode cX8_count 179 = .ok (.getfield 25, 3) := by decide +kernel
theorem dX8_count_182 : decode cX8_count 182 = .ok (.getfield 141, 3) := by decide +kernel
theorem dX8_count_185 : decode cX8_count 185 = .ok (.ireturn, 1) := by decide +kernel
theorem dX8_count_186 : decode cX8_count 186 = .ok (.aload_n 0, 1) := by decide +kernel
theorem dX8_count_187 : decode cX8_count 187 = .ok (.getfield 32, 3) := by decide +kernel
theorem dX8_count_190 : decode cX8_count 190 = .ok (.getfield 134, 3) := by decide +kernel
theorem dX8_count_193 : decode cX8_count 193 = .ok (.ireturn, 1) := by decide +kernel
theorem dX8_count_194 : decode cX8_count 194 = .ok (.bipush (-2), 2) := by decide +kernel
theorem dX8_count_196 : decode cX8_count 196 = .ok (.ireturn, 1) := by decide +kernel
set_option maxRecDepth 20000 in
theorem ggX8_toldOfPart_X1_triesOf : GoodIn wsX8_toldOfPart wsX1_triesOf := goodIn_r _ [6, 7, 8, 9, 10, 55, 56] (by decide +kernel) (by decide +kernel)
set_option maxRecDepth 20000 in
theorem gX8_toldOfPart_X1_triesOf : GoodIn wsX8_toldOfPart (wsV RX8 225 RX1 yX1_triesOf wsX1_triesOf) := goodIn_app (goodIn_of _ (by decide +kernel)) ggX8_toldOfPart_X1_triesOf
set_option maxRecDepth 20000 in
theorem ggX8_toldOfPart_X1_slipsOf : GoodIn wsX8_toldOfPart wsX1_slipsOf := goodIn_r _ [14, 15, 8, 9, 10, 55, 56] (by decide +kernel) (by decide +kernel)
set_option maxRecDepth 20000 in
theorem gX8_toldOfPart_X1_slipsOf : GoodIn wsX8_toldOfPart (wsV RX8 228 RX1 yX1_slipsOf wsX1_slipsOf) := goodIn_app (goodIn_of _ (by decide +kernel)) ggX8_toldOfPart_X1_slipsOf
set_option maxRecDepth 20000 in
theorem ggX8_toldOfPart_X1_needOf : GoodIn wsX8_toldOfPart wsX1_needOf := goodIn_r _ [19, 20, 21, 22, 23, 24, 12, 13, 5, 14, 15, 8, 9, 10, 25, 3, 4, 6, 7, 55, 56] (by decide +kernel) (by decide +kernel)
set_option maxRecDepth 20000 in
theorem gX8_toldOfPart_X1_needOf : GoodIn wsX8_toldOfPart (wsV RX8 207 RX1 yX1_needOf wsX1_needOf) := goodIn_app (goodIn_of _ (by decide +kernel)) ggX8_toldOfPart_X1_needOf
set_option maxRecDepth 20000 in
theorem ggX8_toldOfPart_X7_howManyHave : GoodIn wsX8_toldOfPart wsX7_howManyHave := goodIn_r _ [30, 31, 32, 33, 34, 35, 36, 37, 38, 39, 57, 58, 59, 60, 61, 62] (by decide +kernel) (by decide +kernel)
set_option maxRecDepth 20000 in
theorem gX8_toldOfPart_X7_howManyHave : GoodIn wsX8_toldOfPart (wsV RX8 210 RX7 yX7_howManyHave wsX7_howManyHave) := goodIn_app (goodIn_of _ (by decide +kernel)) ggX8_toldOfPart_X7_howManyHave
theorem dX8_toldOfPart_0 : decode cX8_toldOfPart 0 = .ok (.iload_n 2, 1) := by decide +kernel
theorem dX8_toldOfPart_1 : decode cX8_toldOfPart 1 = .ok (.tableswitch 79 0 3 #[31, 43, 55, 67], 31) := by decide +kernel
theorem dX8_toldOfPart_32 : decode cX8_toldOfPart 32 = .ok (.aload_n 0, 1) := by decide +kernel
theorem dX8_toldOfPart_33 : decode cX8_toldOfPart 33 = .ok (.getfield 12, 3) := by decide +kernel
theorem dX8_toldOfPart_36 : decode cX8_toldOfPart 36 = .ok (.getfield 62, 3) := by decide +kernel
theorem dX8_toldOfPart_39 : decode cX8_toldOfPart 39 = .ok (.iload_n 1, 1) := by decide +kernel
theorem dX8_toldOfPart_40 : decode cX8_toldOfPart 40 = .ok (.invokevirtual 225, 3) := by decide +kernel
theorem dX8_toldOfPart_43 : decode cX8_toldOfPart 43 = .ok (.ireturn, 1) := by decide +kernel
theorem dX8_toldOfPart_44 : decode cX8_toldOfPart 44 = .ok (.aload_n 0, 1) := by decide +kernel
theorem dX8_toldOfPart_45 : decode cX8_toldOfPart 45 = .ok (.getfield 12, 3) := by decide +kernel
theorem dX8_toldOfPart_48 : decode cX8_toldOfPart 48 = .ok (.getfield 62, 3) := by decide +kernel
theorem dX8_toldOfPart_51 : decode cX8_toldOfPart 51 = .ok (.iload_n 1, 1) := by decide +kernel
theorem dX8_toldOfPart_52 : decode cX8_toldOfPart 52 = .ok (.invokevirtual 228, 3) := by decide +kernel
theorem dX8_toldOfPart_55 : decode cX8_toldOfPart 55 = .ok (.ireturn, 1) := by decide +kernel
theorem dX8_toldOfPart_56 : decode cX8_toldOfPart 56 = .ok (.aload_n 0, 1) := by decide +kernel
theorem dX8_toldOfPart_57 : decode cX8_toldOfPart 57 = .ok (.getfield 12, 3) := by decide +kernel
theorem dX8_toldOfPart_60 : decode cX8_toldOfPart 60 = .ok (.getfield 62, 3) := by decide +kernel
theorem dX8_toldOfPart_63 : decode cX8_toldOfPart 63 = .ok (.iload_n 1, 1) := by decide +kernel
theorem dX8_toldOfPart_64 : decode cX8_toldOfPart 64 = .ok (.invokevirtual 207, 3) := by decide +kernel
theorem dX8_toldOfPart_67 : decode cX8_toldOfPart 67 = .ok (.ireturn, 1) := by decide +kernel
theorem dX8_toldOfPart_68 : decode cX8_toldOfPart 68 = .ok (.aload_n 0, 1) := by decide +kernel
theorem dX8_toldOfPart_69 : decode cX8_toldOfPart 69 = .ok (.getfield 12, 3) := by decide +kernel
theorem dX8_toldOfPart_72 : decode cX8_toldOfPart 72 = .ok (.getfield 92, 3) := by decide +kernel
theorem dX8_toldOfPart_75 : decode cX8_toldOfPart 75 = .ok (.iload_n 1, 1) := by decide +kernel
theorem dX8_toldOfPart_76 : decode cX8_toldOfPart 76 = .ok (.invokevirtual 210, 3) := by decide +kernel
theorem dX8_toldOfPart_79 : decode cX8_toldOfPart 79 = .ok (.ireturn, 1) := by decide +kernel
theorem dX8_toldOfPart_80 : decode cX8_toldOfPart 80 = .ok (.bipush (-2), 2) := by decide +kernel
theorem dX8_toldOfPart_82 : decode cX8_toldOfPart 82 = .ok (.ireturn, 1) := by decide +kernel
theorem dX8_areLines_0 : decode cX8_areLines 0 = .ok (.iload_n 0, 1) := by decide +kernel
theorem dX8_areLines_1 : decode cX8_areLines 1 = .ok (.iconst 1, 1) := by decide +kernel
theorem dX8_areLines_2 : decode cX8_areLines 2 = .ok (.if_icmp .lt 13, 3) := by decide +kernel
theorem dX8_areLines_5 : decode cX8_areLines 5 = .ok (.iload_n 0, 1) := by decide +kernel
theorem dX8_areLines_6 : decode cX8_areLines 6 = .ok (.bipush 10, 2) := by decide +kernel
theorem dX8_areLines_8 : decode cX8_areLines 8 = .ok (.if_icmp .gt 7, 3) := by decide +kernel
theorem dX8_areLines_11 : decode cX8_areLines 11 = .ok (.iconst 1, 1) := by decide +kernel
theorem dX8_areLines_12 : decode cX8_areLines 12 = .ok (.goto 4, 3) := by decide +kernel
theorem dX8_areLines_15 : decode cX8_areLines 15 = .ok (.iconst 0, 1) := by decide +kernel
theorem dX8_areLines_16 : decode cX8_areLines 16 = .ok (.ireturn, 1) := by decide +kernel
theorem dX8_isLetter_0 : decode cX8_isLetter 0 = .ok (.iload_n 0, 1) := by decide +kernel
theorem dX8_isLetter_1 : decode cX8_isLetter 1 = .ok (.bipush 97, 2) := by decide +kernel
theorem dX8_isLetter_3 : decode cX8_isLetter 3 = .ok (.if_icmp .lt 13, 3) := by decide +kernel
theorem dX8_isLetter_6 : decode cX8_isLetter 6 = .ok (.iload_n 0, 1) := by decide +kernel
theorem dX8_isLetter_7 : decode cX8_isLetter 7 = .ok (.bipush 122, 2) := by decide +kernel
theorem dX8_isLetter_9 : decode cX8_isLetter 9 = .ok (.if_icmp .gt 7, 3) := by decide +kernel
theorem dX8_isLetter_12 : decode cX8_isLetter 12 = .ok (.iconst 1, 1) := by decide +kernel
theorem dX8_isLetter_13 : decode cX8_isLetter 13 = .ok (.goto 4, 3) := by decide +kernel
theorem dX8_isLetter_16 : decode cX8_isLetter 16 = .ok (.iconst 0, 1) := by decide +kernel
theorem dX8_isLetter_17 : decode cX8_isLetter 17 = .ok (.ireturn, 1) := by decide +kernel
theorem dX8_letterNumber_0 : decode cX8_letterNumber 0 = .ok (.iload_n 0, 1) := by decide +kernel
theorem dX8_letterNumber_1 : decode cX8_letterNumber 1 = .ok (.bipush 97, 2) := by decide +kernel
theorem dX8_letterNumber_3 : decode cX8_letterNumber 3 = .ok (.isub, 1) := by decide +kernel
theorem dX8_letterNumber_4 : decode cX8_letterNumber 4 = .ok (.ireturn, 1) := by decide +kernel
theorem dX8_joinPart_0 : decode cX8_joinPart 0 = .ok (.bipush 26, 2) := by decide +kernel
theorem dX8_joinPart_2 : decode cX8_joinPart 2 = .ok (.bipush 26, 2) := by decide +kernel
theorem dX8_joinPart_4 : decode cX8_joinPart 4 = .ok (.iload_n 0, 1) := by decide +kernel
theorem dX8_joinPart_5 : decode cX8_joinPart 5 = .ok (.imul, 1) := by decide +kernel
theorem dX8_joinPart_6 : decode cX8_joinPart 6 = .ok (.iadd, 1) := by decide +kernel
theorem dX8_joinPart_7 : decode cX8_joinPart 7 = .ok (.iload_n 1, 1) := by decide +kernel
theorem dX8_joinPart_8 : decode cX8_joinPart 8 = .ok (.iadd, 1) := by decide +kernel
theorem dX8_joinPart_9 : decode cX8_joinPart 9 = .ok (.ireturn, 1) := by decide +kernel
theorem dX8_isPart_0 : decode cX8_isPart 0 = .ok (.iload_n 0, 1) := by decide +kernel
theorem dX8_isPart_1 : decode cX8_isPart 1 = .ok (.ifCond .lt 14, 3) := by decide +kernel
theorem dX8_isPart_4 : decode cX8_isPart 4 = .ok (.iload_n 0, 1) := by decide +kernel
theorem dX8_isPart_5 : decode cX8_isPart 5 = .ok (.sipush 702, 3) := by decide +kernel
theorem dX8_isPart_8 : decode cX8_isPart 8 = .ok (.if_icmp .ge 7, 3) := by decide +kernel
theorem dX8_isPart_11 : decode cX8_isPart 11 = .ok (.iconst 1, 1) := by decide +kernel
theorem dX8_isPart_12 : decode cX8_isPart 12 = .ok (.goto 4, 3) := by decide +kernel
theorem dX8_isPart_15 : decode cX8_isPart 15 = .ok (.iconst 0, 1) := by decide +kernel
theorem dX8_isPart_16 : decode cX8_isPart 16 = .ok (.ireturn, 1) := by decide +kernel
theorem dX8_firstPart_0 : decode cX8_firstPart 0 = .ok (.iload_n 0, 1) := by decide +kernel
theorem dX8_firstPart_1 : decode cX8_firstPart 1 = .ok (.ifCond .eq 8, 3) := by decide +kernel
theorem dX8_firstPart_4 : decode cX8_firstPart 4 = .ok (.bipush 26, 2) := by decide +kernel
theorem dX8_firstPart_6 : decode cX8_firstPart 6 = .ok (.goto 4, 3) := by decide +kernel
theorem dX8_firstPart_9 : decode cX8_firstPart 9 = .ok (.iconst 0, 1) := by decide +kernel
theorem dX8_firstPart_10 : decode cX8_firstPart 10 = .ok (.ireturn, 1) := by decide +kernel
theorem dX8_endOfParts_0 : decode cX8_endOfParts 0 = .ok (.iload_n 0, 1) := by decide +kernel
theorem dX8_endOfParts_1 : decode cX8_endOfParts 1 = .ok (.ifCond .eq 9, 3) := by decide +kernel
theorem dX8_endOfParts_4 : decode cX8_endOfParts 4 = .ok (.sipush 702, 3) := by decide +kernel
theorem dX8_endOfParts_7 : decode cX8_endOfParts 7 = .ok (.goto 5, 3) := by decide +kernel
theorem dX8_endOfParts_10 : decode cX8_endOfParts 10 = .ok (.bipush 26, 2) := by decide +kernel
theorem dX8_endOfParts_12 : decode cX8_endOfParts 12 = .ok (.ireturn, 1) := by decide +kernel
