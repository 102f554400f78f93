/-! decode rows and calls' words, printed -/
theorem dX9_init_0 : decode cX9_init 0 = .ok (.aload_n 0, 1) := by decide +kernel
theorem dX9_init_1 : decode cX9_init 1 = .ok (.invokespecial 1, 3) := by decide +kernel
theorem dX9_init_4 : decode cX9_init 4 = .ok (.aload_n 0, 1) := by decide +kernel
theorem dX9_init_5 : decode cX9_init 5 = .ok (.sipush 1730, 3) := by decide +kernel
theorem dX9_init_8 : decode cX9_init 8 = .ok (.newarray .int, 2) := by decide +kernel
theorem dX9_init_10 : decode cX9_init 10 = .ok (.putfield 7, 3) := by decide +kernel
theorem dX9_init_13 : decode cX9_init 13 = .ok (.aload_n 0, 1) := by decide +kernel
theorem dX9_init_14 : decode cX9_init 14 = .ok (.sipush 1730, 3) := by decide +kernel
theorem dX9_init_17 : decode cX9_init 17 = .ok (.newarray .int, 2) := by decide +kernel
theorem dX9_init_19 : decode cX9_init 19 = .ok (.putfield 13, 3) := by decide +kernel
theorem dX9_init_22 : decode cX9_init 22 = .ok (.aload_n 0, 1) := by decide +kernel
theorem dX9_init_23 : decode cX9_init 23 = .ok (.sipush 1730, 3) := by decide +kernel
theorem dX9_init_26 : decode cX9_init 26 = .ok (.newarray .int, 2) := by decide +kernel
theorem dX9_init_28 : decode cX9_init 28 = .ok (.putfield 16, 3) := by decide +kernel
theorem dX9_init_31 : decode cX9_init 31 = .ok (.aload_n 0, 1) := by decide +kernel
theorem dX9_init_32 : decode cX9_init 32 = .ok (.sipush 6920, 3) := by decide +kernel
theorem dX9_init_35 : decode cX9_init 35 = .ok (.newarray .int, 2) := by decide +kernel
theorem dX9_init_37 : decode cX9_init 37 = .ok (.putfield 19, 3) := by decide +kernel
theorem dX9_init_40 : decode cX9_init 40 = .ok (.aload_n 0, 1) := by decide +kernel
theorem dX9_init_41 : decode cX9_init 41 = .ok (.sipush 1730, 3) := by decide +kernel
theorem dX9_init_44 : decode cX9_init 44 = .ok (.newarray .int, 2) := by decide +kernel
theorem dX9_init_46 : decode cX9_init 46 = .ok (.putfield 22, 3) := by decide +kernel
theorem dX9_init_49 : decode cX9_init 49 = .ok (.aload_n 0, 1) := by decide +kernel
theorem dX9_init_50 : decode cX9_init 50 = .ok (.bipush 29, 2) := by decide +kernel
theorem dX9_init_52 : decode cX9_init 52 = .ok (.newarray .int, 2) := by decide +kernel
theorem dX9_init_54 : decode cX9_init 54 = .ok (.putfield 25, 3) := by decide +kernel
theorem dX9_init_57 : decode cX9_init 57 = .ok (.aload_n 0, 1) := by decide +kernel
theorem dX9_init_58 : decode cX9_init 58 = .ok (.bipush 10, 2) := by decide +kernel
theorem dX9_init_60 : decode cX9_init 60 = .ok (.newarray .int, 2) := by decide +kernel
theorem dX9_init_62 : decode cX9_init 62 = .ok (.putfield 28, 3) := by decide +kernel
theorem dX9_init_65 : decode cX9_init 65 = .ok (.aload_n 0, 1) := by decide +kernel
theorem dX9_init_66 : decode cX9_init 66 = .ok (.bipush 10, 2) := by decide +kernel
theorem dX9_init_68 : decode cX9_init 68 = .ok (.newarray .int, 2) := by decide +kernel
theorem dX9_init_70 : decode cX9_init 70 = .ok (.putfield 31, 3) := by decide +kernel
theorem dX9_init_73 : decode cX9_init 73 = .ok (.aload_n 0, 1) := by decide +kernel
theorem dX9_init_74 : decode cX9_init 74 = .ok (.sipush 702, 3) := by decide +kernel
theorem dX9_init_77 : decode cX9_init 77 = .ok (.newarray .int, 2) := by decide +kernel
theorem dX9_init_79 : decode cX9_init 79 = .ok (.putfield 34, 3) := by decide +kernel
theorem dX9_init_82 : decode cX9_init 82 = .ok (.aload_n 0, 1) := by decide +kernel
theorem dX9_init_83 : decode cX9_init 83 = .ok (.bipush 60, 2) := by decide +kernel
theorem dX9_init_85 : decode cX9_init 85 = .ok (.newarray .int, 2) := by decide +kernel
theorem dX9_init_87 : decode cX9_init 87 = .ok (.putfield 37, 3) := by decide +kernel
theorem dX9_init_90 : decode cX9_init 90 = .ok (.aload_n 0, 1) := by decide +kernel
theorem dX9_init_91 : decode cX9_init 91 = .ok (.bipush 15, 2) := by decide +kernel
theorem dX9_init_93 : decode cX9_init 93 = .ok (.newarray .int, 2) := by decide +kernel
theorem dX9_init_95 : decode cX9_init 95 = .ok (.putfield 40, 3) := by decide +kernel
theorem dX9_init_98 : decode cX9_init 98 = .ok (.aload_n 0, 1) := by decide +kernel
theorem dX9_init_99 : decode cX9_init 99 = .ok (.bipush 15, 2) := by decide +kernel
theorem dX9_init_101 : decode cX9_init 101 = .ok (.newarray .int, 2) := by decide +kernel
theorem dX9_init_103 : decode cX9_init 103 = .ok (.putfield 43, 3) := by decide +kernel
theorem dX9_init_106 : decode cX9_init 106 = .ok (.aload_n 0, 1) := by decide +kernel
theorem dX9_init_107 : decode cX9_init 107 = .ok (.bipush 15, 2) := by decide +kernel
theorem dX9_init_109 : decode cX9_init 109 = .ok (.newarray .int, 2) := by decide +kernel
theorem dX9_init_111 : decode cX9_init 111 = .ok (.putfield 46, 3) := by decide +kernel
theorem dX9_init_114 : decode cX9_init 114 = .ok (.aload_n 0, 1) := by decide +kernel
theorem dX9_init_115 : decode cX9_init 115 = .ok (.getfield 7, 3) := by decide +kernel
theorem dX9_init_118 : decode cX9_init 118 = .ok (.iconst 0, 1) := by decide +kernel
theorem dX9_init_119 : decode cX9_init 119 = .ok (.iconst 5, 1) := by decide +kernel
theorem dX9_init_120 : decode cX9_init 120 = .ok (.iastore, 1) := by decide +kernel
theorem dX9_init_121 : decode cX9_init 121 = .ok (.return_, 1) := by decide +kernel
theorem dX9_in_0 : decode cX9_in 0 = .ok (.lload_n 0, 1) := by decide +kernel
theorem dX9_in_1 : decode cX9_in 1 = .ok (.lload_n 2, 1) := by decide +kernel
theorem dX9_in_2 : decode cX9_in 2 = .ok (.lcmp, 1) := by decide +kernel
theorem dX9_in_3 : decode cX9_in 3 = .ok (.ifCond .lt 14, 3) := by decide +kernel
theorem dX9_in_6 : decode cX9_in 6 = .ok (.lload_n 0, 1) := by decide +kernel
theorem dX9_in_7 : decode cX9_in 7 = .ok (.lload 4, 2) := by decide +kernel
theorem dX9_in_9 : decode cX9_in 9 = .ok (.lcmp, 1) := by decide +kernel
theorem dX9_in_10 : decode cX9_in 10 = .ok (.ifCond .gt 7, 3) := by decide +kernel
theorem dX9_in_13 : decode cX9_in 13 = .ok (.iconst 1, 1) := by decide +kernel
theorem dX9_in_14 : decode cX9_in 14 = .ok (.goto 4, 3) := by decide +kernel
theorem dX9_in_17 : decode cX9_in 17 = .ok (.iconst 0, 1) := by decide +kernel
theorem dX9_in_18 : decode cX9_in 18 = .ok (.ireturn, 1) := by decide +kernel
theorem dX9_copy_0 : decode cX9_copy 0 = .ok (.iconst 0, 1) := by decide +kernel
theorem dX9_copy_1 : decode cX9_copy 1 = .ok (.istore_n 2, 1) := by decide +kernel
theorem dX9_copy_2 : decode cX9_copy 2 = .ok (.iload_n 2, 1) := by decide +kernel
theorem dX9_copy_3 : decode cX9_copy 3 = .ok (.sipush 1730, 3) := by decide +kernel
theorem dX9_copy_6 : decode cX9_copy 6 = .ok (.if_icmp .ge 15, 3) := by decide +kernel
theorem dX9_copy_9 : decode cX9_copy 9 = .ok (.aload_n 1, 1) := by decide +kernel
theorem dX9_copy_10 : decode cX9_copy 10 = .ok (.iload_n 2, 1) := by decide +kernel
theorem dX9_copy_11 : decode cX9_copy 11 = .ok (.aload_n 0, 1) := by decide +kernel
theorem dX9_copy_12 : decode cX9_copy 12 = .ok (.iload_n 2, 1) := by decide +kernel
theorem dX9_copy_13 : decode cX9_copy 13 = .ok (.iaload, 1) := by decide +kernel
theorem dX9_copy_14 : decode cX9_copy 14 = .ok (.iastore, 1) := by decide +kernel
theorem dX9_copy_15 : decode cX9_copy 15 = .ok (.iinc 2 1, 3) := by decide +kernel
theorem dX9_copy_18 : decode cX9_copy 18 = .ok (.goto (-16), 3) := by decide +kernel
theorem dX9_copy_21 : decode cX9_copy 21 = .ok (.return_, 1) := by decide +kernel
set_option maxRecDepth 20000 in
theorem ggX9_remember_X9_copy : GoodIn wsX9_remember wsX9_copy := goodIn_r _ [6] (by decide +kernel) (by decide +kernel)
set_option maxRecDepth 20000 in
theorem gX9_remember_X9_copy : GoodIn wsX9_remember (va_wsS RX9 49 yX9_copy wsX9_copy) := goodIn_app (goodIn_of _ (by decide +kernel)) ggX9_remember_X9_copy
theorem dX9_remember_0 : decode cX9_remember 0 = .ok (.aload_n 0, 1) := by decide +kernel
theorem dX9_remember_1 : decode cX9_remember 1 = .ok (.getfield 7, 3) := by decide +kernel
theorem dX9_remember_4 : decode cX9_remember 4 = .ok (.aload_n 0, 1) := by decide +kernel
theorem dX9_remember_5 : decode cX9_remember 5 = .ok (.getfield 13, 3) := by decide +kernel
theorem dX9_remember_8 : decode cX9_remember 8 = .ok (.invokestatic 49, 3) := by decide +kernel
theorem dX9_remember_11 : decode cX9_remember 11 = .ok (.return_, 1) := by decide +kernel
theorem dX9_acted_0 : decode cX9_acted 0 = .ok (.aload_n 0, 1) := by decide +kernel
theorem dX9_acted_1 : decode cX9_acted 1 = .ok (.getfield 53, 3) := by decide +kernel
theorem dX9_acted_4 : decode cX9_acted 4 = .ok (.iconst 4, 1) := by decide +kernel
theorem dX9_acted_5 : decode cX9_acted 5 = .ok (.if_icmp .ne 44, 3) := by decide +kernel
theorem dX9_acted_8 : decode cX9_acted 8 = .ok (.iconst 0, 1) := by decide +kernel
theorem dX9_acted_9 : decode cX9_acted 9 = .ok (.istore_n 2, 1) := by decide +kernel
theorem dX9_acted_10 : decode cX9_acted 10 = .ok (.iload_n 2, 1) := by decide +kernel
theorem dX9_acted_11 : decode cX9_acted 11 = .ok (.sipush 5190, 3) := by decide +kernel
theorem dX9_acted_14 : decode cX9_acted 14 = .ok (.if_icmp .ge 25, 3) := by decide +kernel
theorem dX9_acted_17 : decode cX9_acted 17 = .ok (.aload_n 0, 1) := by decide +kernel
theorem dX9_acted_18 : decode cX9_acted 18 = .ok (.getfield 19, 3) := by decide +kernel
theorem dX9_acted_21 : decode cX9_acted 21 = .ok (.iload_n 2, 1) := by decide +kernel
theorem dX9_acted_22 : decode cX9_acted 22 = .ok (.aload_n 0, 1) := by decide +kernel
theorem dX9_acted_23 : decode cX9_acted 23 = .ok (.getfield 19, 3) := by decide +kernel
theorem dX9_acted_26 : decode cX9_acted 26 = .ok (.iload_n 2, 1) := by decide +kernel
theorem dX9_acted_27 : decode cX9_acted 27 = .ok (.sipush 1730, 3) := by decide +kernel
theorem dX9_acted_30 : decode cX9_acted 30 = .ok (.iadd, 1) := by decide +kernel
theorem dX9_acted_31 : decode cX9_acted 31 = .ok (.iaload, 1) := by decide +kernel
theorem dX9_acted_32 : decode cX9_acted 32 = .ok (.iastore, 1) := by decide +kernel
theorem dX9_acted_33 : decode cX9_acted 33 = .ok (.iinc 2 1, 3) := by decide +kernel
theorem dX9_acted_36 : decode cX9_acted 36 = .ok (.goto (-26), 3) := by decide +kernel
theorem dX9_acted_39 : decode cX9_acted 39 = .ok (.aload_n 0, 1) := by decide +kernel
theorem dX9_acted_40 : decode cX9_acted 40 = .ok (.dup, 1) := by decide +kernel
theorem dX9_acted_41 : decode cX9_acted 41 = .ok (.getfield 53, 3) := by decide +kernel
theorem dX9_acted_44 : decode cX9_acted 44 = .ok (.iconst 1, 1) := by decide +kernel
theorem dX9_acted_45 : decode cX9_acted 45 = .ok (.isub, 1) := by decide +kernel
theorem dX9_acted_46 : decode cX9_acted 46 = .ok (.putfield 53, 3) := by decide +kernel
theorem dX9_acted_49 : decode cX9_acted 49 = .ok (.iconst 0, 1) := by decide +kernel
theorem dX9_acted_50 : decode cX9_acted 50 = .ok (.istore_n 2, 1) := by decide +kernel
theorem dX9_acted_51 : decode cX9_acted 51 = .ok (.iload_n 2, 1) := by decide +kernel
theorem dX9_acted_52 : decode cX9_acted 52 = .ok (.sipush 1730, 3) := by decide +kernel
theorem dX9_acted_55 : decode cX9_acted 55 = .ok (.if_icmp .ge 30, 3) := by decide +kernel
theorem dX9_acted_58 : decode cX9_acted 58 = .ok (.aload_n 0, 1) := by decide +kernel
theorem dX9_acted_59 : decode cX9_acted 59 = .ok (.getfield 19, 3) := by decide +kernel
theorem dX9_acted_62 : decode cX9_acted 62 = .ok (.sipush 1730, 3) := by decide +kernel
theorem dX9_acted_65 : decode cX9_acted 65 = .ok (.aload_n 0, 1) := by decide +kernel
theorem dX9_acted_66 : decode cX9_acted 66 = .ok (.getfield 53, 3) := by decide +kernel
theorem dX9_acted_69 : decode cX9_acted 69 = .ok (.imul, 1) := by decide +kernel
theorem dX9_acted_70 : decode cX9_acted 70 = .ok (.iload_n 2, 1) := by decide +kernel
theorem dX9_acted_71 : decode cX9_acted 71 = .ok (.iadd, 1) := by decide +kernel
theorem dX9_acted_72 : decode cX9_acted 72 = .ok (.aload_n 0, 1) := by decide +kernel
theorem dX9_acted_73 : decode cX9_acted 73 = .ok (.getfield 13, 3) := by decide +kernel
theorem dX9_acted_76 : decode cX9_acted 76 = .ok (.iload_n 2, 1) := by decide +kernel
theorem dX9_acted_77 : decode cX9_acted 77 = .ok (.iaload, 1) := by decide +kernel
theorem dX9_acted_78 : decode cX9_acted 78 = .ok (.iastore, 1) := by decide +kernel
theorem dX9_acted_79 : decode cX9_acted 79 = .ok (.iinc 2 1, 3) := by decide +kernel
theorem dX9_acted_82 : decode cX9_acted 82 = .ok (.goto (-31), 3) := by decide +kernel
theorem dX9_acted_85 : decode cX9_acted 85 = .ok (.aload_n 0, 1) := by decide +kernel
theorem dX9_acted_86 : decode cX9_acted 86 = .ok (.dup, 1) := by decide +kernel
theorem dX9_acted_87 : decode cX9_acted 87 = .ok (.getfield 53, 3) := by decide +kernel
theorem dX9_acted_90 : decode cX9_acted 90 = .ok (.iconst 1, 1) := by decide +kernel
theorem dX9_acted_91 : decode cX9_acted 91 = .ok (.iadd, 1) := by decide +kernel
theorem dX9_acted_92 : decode cX9_acted 92 = .ok (.putfield 53, 3) := by decide +kernel
theorem dX9_acted_95 : decode cX9_acted 95 = .ok (.iload_n 1, 1) := by decide +kernel
theorem dX9_acted_96 : decode cX9_acted 96 = .ok (.ireturn, 1) := by decide +kernel
theorem dX9_needOf_0 : decode cX9_needOf 0 = .ok (.bipush 100, 2) := by decide +kernel
theorem dX9_needOf_2 : decode cX9_needOf 2 = .ok (.aload_n 0, 1) := by decide +kernel
theorem dX9_needOf_3 : decode cX9_needOf 3 = .ok (.getfield 7, 3) := by decide +kernel
theorem dX9_needOf_6 : decode cX9_needOf 6 = .ok (.sipush 708, 3) := by decide +kernel
theorem dX9_needOf_9 : decode cX9_needOf 9 = .ok (.iload_n 1, 1) := by decide +kernel
theorem dX9_needOf_10 : decode cX9_needOf 10 = .ok (.iadd, 1) := by decide +kernel
theorem dX9_needOf_11 : decode cX9_needOf 11 = .ok (.iaload, 1) := by decide +kernel
theorem dX9_needOf_12 : decode cX9_needOf 12 = .ok (.imul, 1) := by decide +kernel
theorem dX9_needOf_13 : decode cX9_needOf 13 = .ok (.aload_n 0, 1) := by decide +kernel
theorem dX9_needOf_14 : decode cX9_needOf 14 = .ok (.getfield 7, 3) := by decide +kernel
theorem dX9_needOf_17 : decode cX9_needOf 17 = .ok (.bipush 6, 2) := by decide +kernel
theorem dX9_needOf_19 : decode cX9_needOf 19 = .ok (.iload_n 1, 1) := by decide +kernel
theorem dX9_needOf_20 : decode cX9_needOf 20 = .ok (.iadd, 1) := by decide +kernel
theorem dX9_needOf_21 : decode cX9_needOf 21 = .ok (.iaload, 1) := by decide +kernel
theorem dX9_needOf_22 : decode cX9_needOf 22 = .ok (.iconst 2, 1) := by decide +kernel
theorem dX9_needOf_23 : decode cX9_needOf 23 = .ok (.iadd, 1) := by decide +kernel
theorem dX9_needOf_24 : decode cX9_needOf 24 = .ok (.idiv, 1) := by decide +kernel
theorem dX9_needOf_25 : decode cX9_needOf 25 = .ok (.ireturn, 1) := by decide +kernel
theorem dX9_isUntried_0 : decode cX9_isUntried 0 = .ok (.aload_n 0, 1) := by decide +kernel
theorem dX9_isUntried_1 : decode cX9_isUntried 1 = .ok (.getfield 7, 3) := by decide +kernel
theorem dX9_isUntried_4 : decode cX9_isUntried 4 = .ok (.bipush 6, 2) := by decide +kernel
theorem dX9_isUntried_6 : decode cX9_isUntried 6 = .ok (.iload_n 1, 1) := by decide +kernel
theorem dX9_isUntried_7 : decode cX9_isUntried 7 = .ok (.iadd, 1) := by decide +kernel
theorem dX9_isUntried_8 : decode cX9_isUntried 8 = .ok (.iaload, 1) := by decide +kernel
theorem dX9_isUntried_9 : decode cX9_isUntried 9 = .ok (.ifCond .ne 7, 3) := by decide +kernel
theorem dX9_isUntried_12 : decode cX9_isUntried 12 = .ok (.iconst 1, 1) := by decide +kernel
theorem dX9_isUntried_13 : decode cX9_isUntried 13 = .ok (.goto 4, 3) := by decide +kernel
theorem dX9_isUntried_16 : decode cX9_isUntried 16 = .ok (.iconst 0, 1) := by decide +kernel
theorem dX9_isUntried_17 : decode cX9_isUntried 17 = .ok (.ireturn, 1) := by decide +kernel
theorem dX9_tries_0 : decode cX9_tries 0 = .ok (.aload_n 0, 1) := by decide +kernel
theorem dX9_tries_1 : decode cX9_tries 1 = .ok (.getfield 7, 3) := by decide +kernel
theorem dX9_tries_4 : decode cX9_tries 4 = .ok (.bipush 6, 2) := by decide +kernel
theorem dX9_tries_6 : decode cX9_tries 6 = .ok (.iload_n 1, 1) := by decide +kernel
theorem dX9_tries_7 : decode cX9_tries 7 = .ok (.iadd, 1) := by decide +kernel
theorem dX9_tries_8 : decode cX9_tries 8 = .ok (.dup2, 1) := by decide +kernel
theorem dX9_tries_9 : decode cX9_tries 9 = .ok (.iaload, 1) := by decide +kernel
theorem dX9_tries_10 : decode cX9_tries 10 = .ok (.aload_n 0, 1) := by decide +kernel
theorem dX9_tries_11 : decode cX9_tries 11 = .ok (.getfield 7, 3) := by decide +kernel
theorem dX9_tries_14 : decode cX9_tries 14 = .ok (.bipush 6, 2) := by decide +kernel
theorem dX9_tries_16 : decode cX9_tries 16 = .ok (.iload_n 1, 1) := by decide +kernel
theorem dX9_tries_17 : decode cX9_tries 17 = .ok (.iadd, 1) := by decide +kernel
theorem dX9_tries_18 : decode cX9_tries 18 = .ok (.iaload, 1) := by decide +kernel
theorem dX9_tries_19 : decode cX9_tries 19 = .ok (.sipush 9999, 3) := by decide +kernel
theorem dX9_tries_22 : decode cX9_tries 22 = .ok (.if_icmp .ge 7, 3) := by decide +kernel
theorem dX9_tries_25 : decode cX9_tries 25 = .ok (.iconst 1, 1) := by decide +kernel
theorem dX9_tries_26 : decode cX9_tries 26 = .ok (.goto 4, 3) := by decide +kernel
theorem dX9_tries_29 : decode cX9_tries 29 = .ok (.iconst 0, 1) := by decide +kernel
theorem dX9_tries_30 : decode cX9_tries 30 = .ok (.iadd, 1) := by decide +kernel
theorem dX9_tries_31 : decode cX9_tries 31 = .ok (.iastore, 1) := by decide +kernel
theorem dX9_tries_32 : decode cX9_tries 32 = .ok (.aload_n 0, 1) := by decide +kernel
theorem dX9_tries_33 : decode cX9_tries 33 = .ok (.getfield 7, 3) := by decide +kernel
theorem dX9_tries_36 : decode cX9_tries 36 = .ok (.sipush 708, 3) := by decide +kernel
theorem dX9_tries_39 : decode cX9_tries 39 = .ok (.iload_n 1, 1) := by decide +kernel
theorem dX9_tries_40 : decode cX9_tries 40 = .ok (.iadd, 1) := by decide +kernel
theorem dX9_tries_41 : decode cX9_tries 41 = .ok (.dup2, 1) := by decide +kernel
theorem dX9_tries_42 : decode cX9_tries 42 = .ok (.iaload, 1) := by decide +kernel
theorem dX9_tries_43 : decode cX9_tries 43 = .ok (.iload_n 2, 1) := by decide +kernel
theorem dX9_tries_44 : decode cX9_tries 44 = .ok (.iconst 1, 1) := by decide +kernel
theorem dX9_tries_45 : decode cX9_tries 45 = .ok (.if_icmp .ne 23, 3) := by decide +kernel
theorem dX9_tries_48 : decode cX9_tries 48 = .ok (.aload_n 0, 1) := by decide +kernel
theorem dX9_tries_49 : decode cX9_tries 49 = .ok (.getfield 7, 3) := by decide +kernel
theorem dX9_tries_52 : decode cX9_tries 52 = .ok (.sipush 708, 3) := by decide +kernel
theorem dX9_tries_55 : decode cX9_tries 55 = .ok (.iload_n 1, 1) := by decide +kernel
theorem dX9_tries_56 : decode cX9_tries 56 = .ok (.iadd, 1) := by decide +kernel
theorem dX9_tries_57 : decode cX9_tries 57 = .ok (.iaload, 1) := by decide +kernel
theorem dX9_tries_58 : decode cX9_tries 58 = .ok (.sipush 9999, 3) := by decide +kernel
theorem dX9_tries_61 : decode cX9_tries 61 = .ok (.if_icmp .ge 7, 3) := by decide +kernel
theorem dX9_tries_64 : decode cX9_tries 64 = .ok (.iconst 1, 1) := by decide +kernel
theorem dX9_tries_65 : decode cX9_tries 65 = .ok (.goto 4, 3) := by decide +kernel
theorem dX9_tries_68 : decode cX9_tries 68 = .ok (.iconst 0, 1) := by decide +kernel
theorem dX9_tries_69 : decode cX9_tries 69 = .ok (.iadd, 1) := by decide +kernel
theorem dX9_tries_70 : decode cX9_tries 70 = .ok (.iastore, 1) := by decide +kernel
theorem dX9_tries_71 : decode cX9_tries 71 = .ok (.return_, 1) := by decide +kernel
theorem dX9_joinOf_0 : decode cX9_joinOf 0 = .ok (.bipush 26, 2) := by decide +kernel
theorem dX9_joinOf_2 : decode cX9_joinOf 2 = .ok (.bipush 26, 2) := by decide +kernel
theorem dX9_joinOf_4 : decode cX9_joinOf 4 = .ok (.iload_n 0, 1) := by decide +kernel
theorem dX9_joinOf_5 : decode cX9_joinOf 5 = .ok (.imul, 1) := by decide +kernel
theorem dX9_joinOf_6 : decode cX9_joinOf 6 = .ok (.iadd, 1) := by decide +kernel
theorem dX9_joinOf_7 : decode cX9_joinOf 7 = .ok (.iload_n 1, 1) := by decide +kernel
theorem dX9_joinOf_8 : decode cX9_joinOf 8 = .ok (.iadd, 1) := by decide +kernel
theorem dX9_joinOf_9 : decode cX9_joinOf 9 = .ok (.ireturn, 1) := by decide +kernel
set_option maxRecDepth 20000 in
theorem ggX9_isWord_X9_in : GoodIn wsX9_isWord wsX9_in := goodIn_r _ [5] (by decide +kernel) (by decide +kernel)
set_option maxRecDepth 20000 in
theorem gX9_isWord_X9_in : GoodIn wsX9_isWord (va_wsS RX9 57 yX9_in wsX9_in) := goodIn_app (goodIn_of _ (by decide +kernel)) ggX9_isWord_X9_in
theorem dX9_isWord_0 : decode cX9_isWord 0 = .ok (.iload_n 1, 1) := by decide +kernel
theorem dX9_isWord_1 : decode cX9_isWord 1 = .ok (.i2l, 1) := by decide +kernel
theorem dX9_isWord_2 : decode cX9_isWord 2 = .ok (.lconst 0, 1) := by decide +kernel
theorem dX9_isWord_3 : decode cX9_isWord 3 = .ok (.aload_n 0, 1) := by decide +kernel
theorem dX9_isWord_4 : decode cX9_isWord 4 = .ok (.getfield 7, 3) := by decide +kernel
theorem dX9_isWord_7 : decode cX9_isWord 7 = .ok (.iconst 5, 1) := by decide +kernel
theorem dX9_isWord_8 : decode cX9_isWord 8 = .ok (.iaload, 1) := by decide +kernel
theorem dX9_isWord_9 : decode cX9_isWord 9 = .ok (.i2l, 1) := by decide +kernel
theorem dX9_isWord_10 : decode cX9_isWord 10 = .ok (.lconst 1, 1) := by decide +kernel
theorem dX9_isWord_11 : decode cX9_isWord 11 = .ok (.lsub, 1) := by decide +kernel
theorem dX9_isWord_12 : decode cX9_isWord 12 = .ok (.invokestatic 57, 3) := by decide +kernel
theorem dX9_isWord_15 : decode cX9_isWord 15 = .ok (.ireturn, 1) := by decide +kernel
theorem dX9_sizeOf_0 : decode cX9_sizeOf 0 = .ok (.aload_n 0, 1) := by decide +kernel
theorem dX9_sizeOf_1 : decode cX9_sizeOf 1 = .ok (.getfield 7, 3) := by decide +kernel
theorem dX9_sizeOf_4 : decode cX9_sizeOf 4 = .ok (.sipush 1410, 3) := by decide +kernel
theorem dX9_sizeOf_7 : decode cX9_sizeOf 7 = .ok (.bipush 16, 2) := by decide +kernel
theorem dX9_sizeOf_9 : decode cX9_sizeOf 9 = .ok (.iload_n 1, 1) := by decide +kernel
theorem dX9_sizeOf_10 : decode cX9_sizeOf 10 = .ok (.imul, 1) := by decide +kernel
theorem dX9_sizeOf_11 : decode cX9_sizeOf 11 = .ok (.iadd, 1) := by decide +kernel
theorem dX9_sizeOf_12 : decode cX9_sizeOf 12 = .ok (.iaload, 1) := by decide +kernel
theorem dX9_sizeOf_13 : decode cX9_sizeOf 13 = .ok (.ireturn, 1) := by decide +kernel
theorem dX9_letterAt_0 : decode cX9_letterAt 0 = .ok (.aload_n 0, 1) := by decide +kernel
theorem dX9_letterAt_1 : decode cX9_letterAt 1 = .ok (.getfield 7, 3) := by decide +kernel
theorem dX9_letterAt_4 : decode cX9_letterAt 4 = .ok (.sipush 1410, 3) := by decide +kernel
theorem dX9_letterAt_7 : decode cX9_letterAt 7 = .ok (.bipush 16, 2) := by decide +kernel
theorem dX9_letterAt_9 : decode cX9_letterAt 9 = .ok (.iload_n 1, 1) := by decide +kernel
theorem dX9_letterAt_10 : decode cX9_letterAt 10 = .ok (.imul, 1) := by decide +kernel
theorem dX9_letterAt_11 : decode cX9_letterAt 11 = .ok (.iadd, 1) := by decide +kernel
theorem dX9_letterAt_12 : decode cX9_letterAt 12 = .ok (.iconst 1, 1) := by decide +kernel
theorem dX9_letterAt_13 : decode cX9_letterAt 13 = .ok (.iadd, 1) := by decide +kernel
theorem dX9_letterAt_14 : decode cX9_letterAt 14 = .ok (.iload_n 2, 1) := by decide +kernel
theorem dX9_letterAt_15 : decode cX9_letterAt 15 = .ok (.iadd, 1) := by decide +kernel
theorem dX9_letterAt_16 : decode cX9_letterAt 16 = .ok (.iaload, 1) := by decide +kernel
theorem dX9_letterAt_17 : decode cX9_letterAt 17 = .ok (.ireturn, 1) := by decide +kernel
theorem dX9_addsPart_0 : decode cX9_addsPart 0 = .ok (.iconst 0, 1) := by decide +kernel
theorem dX9_addsPart_1 : decode cX9_addsPart 1 = .ok (.istore_n 2, 1) := by decide +kernel
theorem dX9_addsPart_2 : decode cX9_addsPart 2 = .ok (.iconst 0, 1) := by decide +kernel
theorem dX9_addsPart_3 : decode cX9_addsPart 3 = .ok (.istore_n 3, 1) := by decide +kernel
theorem dX9_addsPart_4 : decode cX9_addsPart 4 = .ok (.iload_n 3, 1) := by decide +kernel
theorem dX9_addsPart_5 : decode cX9_addsPart 5 = .ok (.aload_n 0, 1) := by decide +kernel
theorem dX9_addsPart_6 : decode cX9_addsPart 6 = .ok (.getfield 61, 3) := by decide +kernel
theorem dX9_addsPart_9 : decode cX9_addsPart 9 = .ok (.if_icmp .ge 29, 3) := by decide +kernel
theorem dX9_addsPart_12 : decode cX9_addsPart 12 = .ok (.iload_n 2, 1) := by decide +kernel
theorem dX9_addsPart_13 : decode cX9_addsPart 13 = .ok (.ifCond .ne 13, 3) := by decide +kernel
theorem dX9_addsPart_16 : decode cX9_addsPart 16 = .ok (.aload_n 0, 1) := by decide +kernel
theorem dX9_addsPart_17 : decode cX9_addsPart 17 = .ok (.getfield 25, 3) := by decide +kernel
theorem dX9_addsPart_20 : decode cX9_addsPart 20 = .ok (.iload_n 3, 1) := by decide +kernel
theorem dX9_addsPart_21 : decode cX9_addsPart 21 = .ok (.iaload, 1) := by decide +kernel
theorem dX9_addsPart_22 : decode cX9_addsPart 22 = .ok (.iload_n 1, 1) := by decide +kernel
theorem dX9_addsPart_23 : decode cX9_addsPart 23 = .ok (.if_icmp .ne 7, 3) := by decide +kernel
theorem dX9_addsPart_26 : decode cX9_addsPart 26 = .ok (.iconst 1, 1) := by decide +kernel
theorem dX9_addsPart_27 : decode cX9_addsPart 27 = .ok (.goto 4, 3) := by decide +kernel
theorem dX9_addsPart_30 : decode cX9_addsPart 30 = .ok (.iconst 0, 1) := by decide +kernel
theorem dX9_addsPart_31 : decode cX9_addsPart 31 = .ok (.istore_n 2, 1) := by decide +kernel
theorem dX9_addsPart_32 : decode cX9_addsPart 32 = .ok (.iinc 3 1, 3) := by decide +kernel
theorem dX9_addsPart_35 : decode cX9_addsPart 35 = .ok (.goto (-31), 3) := by decide +kernel
theorem dX9_addsPart_38 : decode cX9_addsPart 38 = .ok (.iload_n 2, 1) := by decide +kernel
theorem dX9_addsPart_39 : decode cX9_addsPart 39 = .ok (.ifCond .ne 23, 3) := by decide +kernel
theorem dX9_addsPart_42 : decode cX9_addsPart 42 = .ok (.aload_n 0, 1) := by decide +kernel
theorem dX9_addsPart_43 : decode cX9_addsPart 43 = .ok (.getfield 25, 3) := by decide +kernel
theorem dX9_addsPart_46 : decode cX9_addsPart 46 = .ok (.aload_n 0, 1) := by decide +kernel
theorem dX9_addsPart_47 : decode cX9_addsPart 47 = .ok (.getfield 61, 3) := by decide +kernel
theorem dX9_addsPart_50 : decode cX9_addsPart 50 = .ok (.iload_n 1, 1) := by decide +kernel
theorem dX9_addsPart_51 : decode cX9_addsPart 51 = .ok (.iastore, 1) := by decide +kernel
theorem dX9_addsPart_52 : decode cX9_addsPart 52 = .ok (.aload_n 0, 1) := by decide +kernel
theorem dX9_addsPart_53 : decode cX9_addsPart 53 = .ok (.dup, 1) := by decide +kernel
theorem dX9_addsPart_54 : decode cX9_addsPart 54 = .ok (.getfield 61, 3) := by decide +kernel
theorem dX9_addsPart_57 : decode cX9_addsPart 57 = .ok (.iconst 1, 1) := by decide +kernel
theorem dX9_addsPart_58 : decode cX9_addsPart 58 = .ok (.iadd, 1) := by decide +kernel
theorem dX9_addsPart_59 : decode cX9_addsPart 59 = .ok (.putfield 61, 3) := by decide +kernel
theorem dX9_addsPart_62 : decode cX9_addsPart 62 = .ok (.return_, 1) := by decide +kernel
set_option maxRecDepth 20000 in
theorem ggX9_findsParts_X9_sizeOf : GoodIn wsX9_findsParts wsX9_sizeOf := goodIn_r _ [6, 7, 20, 21, 22, 23, 24, 25, 26, 27, 28, 29, 30, 31, 32, 33, 34, 35, 36, 37, 38] (by decide +kernel) (by decide +kernel)
set_option maxRecDepth 20000 in
theorem gX9_findsParts_X9_sizeOf : GoodIn wsX9_findsParts (wsV RX9 64 RX9 yX9_sizeOf wsX9_sizeOf) := goodIn_app (goodIn_of _ (by decide +kernel)) ggX9_findsParts_X9_sizeOf
set_option maxRecDepth 20000 in
theorem ggX9_findsParts_X9_letterAt : GoodIn wsX9_findsParts wsX9_letterAt := goodIn_r _ [11, 7, 20, 21, 22, 23, 24, 25, 26, 27, 28, 29, 30, 31, 32, 33, 34, 35, 36, 37, 38] (by decide +kernel) (by decide +kernel)
set_option maxRecDepth 20000 in
theorem gX9_findsParts_X9_letterAt : GoodIn wsX9_findsParts (wsV RX9 68 RX9 yX9_letterAt wsX9_letterAt) := goodIn_app (goodIn_of _ (by decide +kernel)) ggX9_findsParts_X9_letterAt
set_option maxRecDepth 20000 in
theorem ggX9_findsParts_X9_addsPart : GoodIn wsX9_findsParts wsX9_addsPart := goodIn_r _ [15, 1, 16, 20, 21, 22, 23, 24, 25, 26, 27, 28, 29, 30, 31, 32, 33, 34, 35, 36, 37, 38] (by decide +kernel) (by decide +kernel)
set_option maxRecDepth 20000 in
theorem gX9_findsParts_X9_addsPart : GoodIn wsX9_findsParts (wsV RX9 72 RX9 yX9_addsPart wsX9_addsPart) := goodIn_app (goodIn_of _ (by decide +kernel)) ggX9_findsParts_X9_addsPart
set_option maxRecDepth 20000 in
theorem ggX9_findsParts_X9_joinOf : GoodIn wsX9_findsParts wsX9_joinOf := goodIn_r _ [19] (by decide +kernel) (by decide +kernel)
set_option maxRecDepth 20000 in
theorem gX9_findsParts_X9_joinOf : GoodIn wsX9_findsParts (va_wsS RX9 76 yX9_joinOf wsX9_joinOf) := goodIn_app (goodIn_of _ (by decide +kernel)) ggX9_findsParts_X9_joinOf
theorem dX9_findsParts_0 : decode cX9_findsParts 0 = .ok (.aload_n 0, 1) := by decide +kernel
theorem dX9_findsParts_1 : decode cX9_findsParts 1 = .ok (.iconst 0, 1) := by decide +kernel
theorem dX9_findsParts_2 : decode cX9_findsParts 2 = .ok (.putfield 61, 3) := by decide +kernel
theorem dX9_findsParts_5 : decode cX9_findsParts 5 = .ok (.iconst 0, 1) := by decide +kernel
theorem dX9_findsParts_6 : decode cX9_findsParts 6 = .ok (.istore_n 2, 1) := by decide +kernel
theorem dX9_findsParts_7 : decode cX9_findsParts 7 = .ok (.iload_n 2, 1) := by decide +kernel
theorem dX9_findsParts_8 : decode cX9_findsParts 8 = .ok (.aload_n 0, 1) := by decide +kernel
theorem dX9_findsParts_9 : decode cX9_findsParts 9 = .ok (.iload_n 1, 1) := by decide +kernel
theorem dX9_findsParts_10 : decode cX9_findsParts 10 = .ok (.invokevirtual 64, 3) := by decide +kernel
theorem dX9_findsParts_13 : decode cX9_findsParts 13 = .ok (.if_icmp .ge 44, 3) := by decide +kernel
theorem dX9_findsParts_16 : decode cX9_findsParts 16 = .ok (.aload_n 0, 1) := by decide +kernel
theorem dX9_findsParts_17 : decode cX9_findsParts 17 = .ok (.aload_n 0, 1) := by decide +kernel
theorem dX9_findsParts_18 : decode cX9_findsParts 18 = .ok (.iload_n 1, 1) := by decide +kernel
theorem dX9_findsParts_19 : decode cX9_findsParts 19 = .ok (.iload_n 2, 1) := by decide +kernel
theorem dX9_findsParts_20 : decode cX9_findsParts 20 = .ok (.invokevirtual 68, 3) := by decide +kernel
theorem dX9_findsParts_23 : decode cX9_findsParts 23 = .ok (.invokevirtual 72, 3) := by decide +kernel
theorem dX9_findsParts_26 : decode cX9_findsParts 26 = .ok (.iload_n 2, 1) := by decide +kernel
theorem dX9_findsParts_27 : decode cX9_findsParts 27 = .ok (.ifCond .le 24, 3) := by decide +kernel
theorem dX9_findsParts_30 : decode cX9_findsParts 30 = .ok (.aload_n 0, 1) := by decide +kernel
theorem dX9_findsParts_31 : decode cX9_findsParts 31 = .ok (.aload_n 0, 1) := by decide +kernel
theorem dX9_findsParts_32 : decode cX9_findsParts 32 = .ok (.iload_n 1, 1) := by decide +kernel
theorem dX9_findsParts_33 : decode cX9_findsParts 33 = .ok (.iload_n 2, 1) := by decide +kernel
theorem dX9_findsParts_34 : decode cX9_findsParts 34 = .ok (.iconst 1, 1) := by decide +kernel
theorem dX9_findsParts_35 : decode cX9_findsParts 35 = .ok (.isub, 1) := by decide +kernel
theorem dX9_findsParts_36 : decode cX9_findsParts 36 = .ok (.invokevirtual 68, 3) := by decide +kernel
theorem dX9_findsParts_39 : decode cX9_findsParts 39 = .ok (.aload_n 0, 1) := by decide +kernel
theorem dX9_findsParts_40 : decode cX9_findsParts 40 = .ok (.iload_n 1, 1) := by decide +kernel
theorem dX9_findsParts_41 : decode cX9_findsParts 41 = .ok (.iload_n 2, 1) := by decide +kernel
theorem dX9_findsParts_42 : decode cX9_findsParts 42 = .ok (.invokevirtual 68, 3) := by decide +kernel
theorem dX9_findsParts_45 : decode cX9_findsParts 45 = .ok (.invokestatic 76, 3) := by decide +kernel
theorem dX9_findsParts_48 : decode cX9_findsParts 48 = .ok (.invokevirtual 72, 3) := by decide +kernel
theorem dX9_findsParts_51 : decode cX9_findsParts 51 = .ok (.iinc 2 1, 3) := by decide +kernel
theorem dX9_findsParts_54 : decode cX9_findsParts 54 = .ok (.goto (-47), 3) := by decide +kernel
theorem dX9_findsParts_57 : decode cX9_findsParts 57 = .ok (.return_, 1) := by decide +kernel
set_option maxRecDepth 20000 in
theorem ggX9_hasPart_X9_findsParts : GoodIn wsX9_hasPart wsX9_findsParts := goodIn_r _ [7, 1, 8, 9, 10, 6, 11, 12, 13, 14, 15, 16, 17, 18, 19, 20, 2, 21, 22, 23, 24, 25, 26, 27, 28, 29, 30, 31, 32, 33, 34, 35, 36, 37, 38, 39, 40, 41, 42] (by decide +kernel) (by decide +kernel)
set_option maxRecDepth 20000 in
theorem gX9_hasPart_X9_findsParts : GoodIn wsX9_hasPart (wsV RX9 79 RX9 yX9_findsParts wsX9_findsParts) := goodIn_app (goodIn_of _ (by decide +kernel)) ggX9_hasPart_X9_findsParts
theorem dX9_hasPart_0 : decode cX9_hasPart 0 = .ok (.aload_n 0, 1) := by decide +kernel
theorem dX9_hasPart_1 : decode cX9_hasPart 1 = .ok (.iload_n 1, 1) := by decide +kernel
theorem dX9_hasPart_2 : decode cX9_hasPart 2 = .ok (.invokevirtual 79, 3) := by decide +kernel
theorem dX9_hasPart_5 : decode cX9_hasPart 5 = .ok (.iconst 0, 1) := by decide +kernel
theorem dX9_hasPart_6 : decode cX9_hasPart 6 = .ok (.istore_n 3, 1) := by decide +kernel
theorem dX9_hasPart_7 : decode cX9_hasPart 7 = .ok (.iconst 0, 1) := by decide +kernel
theorem dX9_hasPart_8 : decode cX9_hasPart 8 = .ok (.istore 4, 2) := by decide +kernel
theorem dX9_hasPart_10 : decode cX9_hasPart 10 = .ok (.iload 4, 2) := by decide +kernel
theorem dX9_hasPart_12 : decode cX9_hasPart 12 = .ok (.aload_n 0, 1) := by decide +kernel
theorem dX9_hasPart_13 : decode cX9_hasPart 13 = .ok (.getfield 61, 3) := by decide +kernel
theorem dX9_hasPart_16 : decode cX9_hasPart 16 = .ok (.if_icmp .ge 30, 3) := by decide +kernel
theorem dX9_hasPart_19 : decode cX9_hasPart 19 = .ok (.iload_n 3, 1) := by decide +kernel
theorem dX9_hasPart_20 : decode cX9_hasPart 20 = .ok (.ifCond .ne 14, 3) := by decide +kernel
theorem dX9_hasPart_23 : decode cX9_hasPart 23 = .ok (.aload_n 0, 1) := by decide +kernel
theorem dX9_hasPart_24 : decode cX9_hasPart 24 = .ok (.getfield 25, 3) := by decide +kernel
theorem dX9_hasPart_27 : decode cX9_hasPart 27 = .ok (.iload 4, 2) := by decide +kernel
theorem dX9_hasPart_29 : decode cX9_hasPart 29 = .ok (.iaload, 1) := by decide +kernel
theorem dX9_hasPart_30 : decode cX9_hasPart 30 = .ok (.iload_n 2, 1) := by decide +kernel
theorem dX9_hasPart_31 : decode cX9_hasPart 31 = .ok (.if_icmp .ne 7, 3) := by decide +kernel
theorem dX9_hasPart_34 : decode cX9_hasPart 34 = .ok (.iconst 1, 1) := by decide +kernel
theorem dX9_hasPart_35 : decode cX9_hasPart 35 = .ok (.goto 4, 3) := by decide +kernel
theorem dX9_hasPart_38 : decode cX9_hasPart 38 = .ok (.iconst 0, 1) := by decide +kernel
theorem dX9_hasPart_39 : decode cX9_hasPart 39 = .ok (.istore_n 3, 1) := by decide +kernel
theorem dX9_hasPart_40 : decode cX9_hasPart 40 = .ok (.iinc 4 1, 3) := by decide +kernel
theorem dX9_hasPart_43 : decode cX9_hasPart 43 = .ok (.goto (-33), 3) := by decide +kernel
theorem dX9_hasPart_46 : decode cX9_hasPart 46 = .ok (.iload_n 3, 1) := by decide +kernel
theorem dX9_hasPart_47 : decode cX9_hasPart 47 = .ok (.ireturn, 1) := by decide +kernel
set_option maxRecDepth 20000 in
theorem ggX9_wordsWith_X9_hasPart : GoodIn wsX9_wordsWith wsX9_hasPart := goodIn_r _ [6, 7, 8, 9, 10, 11, 5, 12, 13, 14, 15, 16, 1, 17, 18, 19, 20, 21, 22, 23, 24, 25, 26, 27, 28, 29, 30, 31, 32, 33, 34, 35, 36, 37, 38, 39, 40, 41, 42, 43, 44, 45, 46] (by decide +kernel) (by decide +kernel)
set_option maxRecDepth 20000 in
theorem gX9_wordsWith_X9_hasPart : GoodIn wsX9_wordsWith (wsV RX9 82 RX9 yX9_hasPart wsX9_hasPart) := goodIn_app (goodIn_of _ (by decide +kernel)) ggX9_wordsWith_X9_hasPart
theorem dX9_wordsWith_0 : decode cX9_wordsWith 0 = .ok (.iconst 0, 1) := by decide +kernel
theorem dX9_wordsWith_1 : decode cX9_wordsWith 1 = .ok (.istore_n 2, 1) := by decide +kernel
theorem dX9_wordsWith_2 : decode cX9_wordsWith 2 = .ok (.iconst 0, 1) := by decide +kernel
theorem dX9_wordsWith_3 : decode cX9_wordsWith 3 = .ok (.istore_n 3, 1) := by decide +kernel
theorem dX9_wordsWith_4 : decode cX9_wordsWith 4 = .ok (.iload_n 3, 1) := by decide +kernel
theorem dX9_wordsWith_5 : decode cX9_wordsWith 5 = .ok (.aload_n 0, 1) := by decide +kernel
theorem dX9_wordsWith_6 : decode cX9_wordsWith 6 = .ok (.getfield 7, 3) := by decide +kernel
theorem dX9_wordsWith_9 : decode cX9_wordsWith 9 = .ok (.iconst 5, 1) := by decide +kernel
theorem dX9_wordsWith_10 : decode cX9_wordsWith 10 = .ok (.iaload, 1) := by decide +kernel
theorem dX9_wordsWith_11 : decode cX9_wordsWith 11 = .ok (.if_icmp .ge 26, 3) := by decide +kernel
theorem dX9_wordsWith_14 : decode cX9_wordsWith 14 = .ok (.iload_n 2, 1) := by decide +kernel
theorem dX9_wordsWith_15 : decode cX9_wordsWith 15 = .ok (.aload_n 0, 1) := by decide +kernel
theorem dX9_wordsWith_16 : decode cX9_wordsWith 16 = .ok (.iload_n 3, 1) := by decide +kernel
theorem dX9_wordsWith_17 : decode cX9_wordsWith 17 = .ok (.iload_n 1, 1) := by decide +kernel
theorem dX9_wordsWith_18 : decode cX9_wordsWith 18 = .ok (.invokevirtual 82, 3) := by decide +kernel
theorem dX9_wordsWith_21 : decode cX9_wordsWith 21 = .ok (.ifCond .eq 7, 3) := by decide +kernel
theorem dX9_wordsWith_24 : decode cX9_wordsWith 24 = .ok (.iconst 1, 1) := by decide +kernel
theorem dX9_wordsWith_25 : decode cX9_wordsWith 25 = .ok (.goto 4, 3) := by decide +kernel
theorem dX9_wordsWith_28 : decode cX9_wordsWith 28 = .ok (.iconst 0, 1) := by decide +kernel
theorem dX9_wordsWith_29 : decode cX9_wordsWith 29 = .ok (.iadd, 1) := by decide +kernel
theorem dX9_wordsWith_30 : decode cX9_wordsWith 30 = .ok (.istore_n 2, 1) := by decide +kernel
theorem dX9_wordsWith_31 : decode cX9_wordsWith 31 = .ok (.iinc 3 1, 3) := by decide +kernel
theorem dX9_wordsWith_34 : decode cX9_wordsWith 34 = .ok (.goto (-30), 3) := by decide +kernel
theorem dX9_wordsWith_37 : decode cX9_wordsWith 37 = .ok (.iload_n 2, 1) := by decide +kernel
theorem dX9_wordsWith_38 : decode cX9_wordsWith 38 = .ok (.ireturn, 1) := by decide +kernel
set_option maxRecDepth 20000 in
theorem ggX9_gainOf_X9_findsParts : GoodIn wsX9_gainOf wsX9_findsParts := goodIn_r _ [9, 1, 10, 11, 12, 8, 13, 3, 14, 15, 16, 17, 18, 19, 20, 21, 2, 22, 23, 24, 33, 34, 35, 36, 37, 38, 39, 40, 41, 42, 43, 44, 45, 46, 47, 48, 49, 50, 51] (by decide +kernel) (by decide +kernel)
set_option maxRecDepth 20000 in
theorem gX9_gainOf_X9_findsParts : GoodIn wsX9_gainOf (wsV RX9 79 RX9 yX9_findsParts wsX9_findsParts) := goodIn_app (goodIn_of _ (by decide +kernel)) ggX9_gainOf_X9_findsParts
set_option maxRecDepth 20000 in
theorem ggX9_gainOf_X9_isUntried : GoodIn wsX9_gainOf wsX9_isUntried := goodIn_r _ [28, 3, 33, 34, 35, 36, 37, 38, 39, 40, 41, 42, 43, 44, 45, 46, 47, 48, 49, 50, 51] (by decide +kernel) (by decide +kernel)
set_option maxRecDepth 20000 in
theorem gX9_gainOf_X9_isUntried : GoodIn wsX9_gainOf (wsV RX9 86 RX9 yX9_isUntried wsX9_isUntried) := goodIn_app (goodIn_of _ (by decide +kernel)) ggX9_gainOf_X9_isUntried
set_option maxRecDepth 20000 in
theorem ggX9_gainOf_X9_needOf : GoodIn wsX9_gainOf wsX9_needOf := goodIn_r _ [32, 3, 33, 34, 35, 36, 37, 38, 39, 40, 41, 42, 43, 44, 45, 46, 47, 48, 49, 50, 51] (by decide +kernel) (by decide +kernel)
set_option maxRecDepth 20000 in
theorem gX9_gainOf_X9_needOf : GoodIn wsX9_gainOf (wsV RX9 90 RX9 yX9_needOf wsX9_needOf) := goodIn_app (goodIn_of _ (by decide +kernel)) ggX9_gainOf_X9_needOf
theorem dX9_gainOf_0 : decode cX9_gainOf 0 = .ok (.aload_n 0, 1) := by decide +kernel
theorem dX9_gainOf_1 : decode cX9_gainOf 1 = .ok (.iload_n 1, 1) := by decide +kernel
theorem dX9_gainOf_2 : decode cX9_gainOf 2 = .ok (.invokevirtual 79, 3) := by decide +kernel
theorem dX9_gainOf_5 : decode cX9_gainOf 5 = .ok (.iconst 0, 1) := by decide +kernel
theorem dX9_gainOf_6 : decode cX9_gainOf 6 = .ok (.istore_n 2, 1) := by decide +kernel
theorem dX9_gainOf_7 : decode cX9_gainOf 7 = .ok (.iconst 0, 1) := by decide +kernel
theorem dX9_gainOf_8 : decode cX9_gainOf 8 = .ok (.istore_n 3, 1) := by decide +kernel
theorem dX9_gainOf_9 : decode cX9_gainOf 9 = .ok (.iload_n 3, 1) := by decide +kernel
theorem dX9_gainOf_10 : decode cX9_gainOf 10 = .ok (.aload_n 0, 1) := by decide +kernel
theorem dX9_gainOf_11 : decode cX9_gainOf 11 = .ok (.getfield 61, 3) := by decide +kernel
theorem dX9_gainOf_14 : decode cX9_gainOf 14 = .ok (.if_icmp .ge 66, 3) := by decide +kernel
theorem dX9_gainOf_17 : decode cX9_gainOf 17 = .ok (.aload_n 0, 1) := by decide +kernel
theorem dX9_gainOf_18 : decode cX9_gainOf 18 = .ok (.getfield 25, 3) := by decide +kernel
theorem dX9_gainOf_21 : decode cX9_gainOf 21 = .ok (.iload_n 3, 1) := by decide +kernel
theorem dX9_gainOf_22 : decode cX9_gainOf 22 = .ok (.iaload, 1) := by decide +kernel
theorem dX9_gainOf_23 : decode cX9_gainOf 23 = .ok (.istore 4, 2) := by decide +kernel
theorem dX9_gainOf_25 : decode cX9_gainOf 25 = .ok (.iload_n 2, 1) := by decide +kernel
theorem dX9_gainOf_26 : decode cX9_gainOf 26 = .ok (.aload_n 0, 1) := by decide +kernel
theorem dX9_gainOf_27 : decode cX9_gainOf 27 = .ok (.iload 4, 2) := by decide +kernel
theorem dX9_gainOf_29 : decode cX9_gainOf 29 = .ok (.invokevirtual 86, 3) := by decide +kernel
theorem dX9_gainOf_32 : decode cX9_gainOf 32 = .ok (.ifCond .eq 12, 3) := by decide +kernel
theorem dX9_gainOf_35 : decode cX9_gainOf 35 = .ok (.aload_n 0, 1) := by decide +kernel
theorem dX9_gainOf_36 : decode cX9_gainOf 36 = .ok (.getfield 7, 3) := by decide +kernel
theorem dX9_gainOf_39 : decode cX9_gainOf 39 = .ok (.iconst 0, 1) := by decide +kernel
theorem dX9_gainOf_40 : decode cX9_gainOf 40 = .ok (.iaload, 1) := by decide +kernel
theorem dX9_gainOf_41 : decode cX9_gainOf 41 = .ok (.goto 31, 3) := by decide +kernel
theorem dX9_gainOf_44 : decode cX9_gainOf 44 = .ok (.aload_n 0, 1) := by decide +kernel
theorem dX9_gainOf_45 : decode cX9_gainOf 45 = .ok (.getfield 34, 3) := by decide +kernel
theorem dX9_gainOf_48 : decode cX9_gainOf 48 = .ok (.iload 4, 2) := by decide +kernel
theorem dX9_gainOf_50 : decode cX9_gainOf 50 = .ok (.iaload, 1) := by decide +kernel
theorem dX9_gainOf_51 : decode cX9_gainOf 51 = .ok (.iconst 1, 1) := by decide +kernel
theorem dX9_gainOf_52 : decode cX9_gainOf 52 = .ok (.if_icmp .ne 14, 3) := by decide +kernel
theorem dX9_gainOf_55 : decode cX9_gainOf 55 = .ok (.aload_n 0, 1) := by decide +kernel
theorem dX9_gainOf_56 : decode cX9_gainOf 56 = .ok (.iload 4, 2) := by decide +kernel
theorem dX9_gainOf_58 : decode cX9_gainOf 58 = .ok (.invokevirtual 90, 3) := by decide +kernel
theorem dX9_gainOf_61 : decode cX9_gainOf 61 = .ok (.iconst 2, 1) := by decide +kernel
theorem dX9_gainOf_62 : decode cX9_gainOf 62 = .ok (.idiv, 1) := by decide +kernel
theorem dX9_gainOf_63 : decode cX9_gainOf 63 = .ok (.goto 9, 3) := by decide +kernel
theorem dX9_gainOf_66 : decode cX9_gainOf 66 = .ok (.aload_n 0, 1) := by decide +kernel
theorem dX9_gainOf_67 : decode cX9_gainOf 67 = .ok (.iload 4, 2) := by decide +kernel
theorem dX9_gainOf_69 : decode cX9_gainOf 69 = .ok (.invokevirtual 90, 3) := by decide +kernel
theorem dX9_gainOf_72 : decode cX9_gainOf 72 = .ok (.iadd, 1) := by decide +kernel
theorem dX9_gainOf_73 : decode cX9_gainOf 73 = .ok (.istore_n 2, 1) := by decide +kernel
theorem dX9_gainOf_74 : decode cX9_gainOf 74 = .ok (.iinc 3 1, 3) := by decide +kernel
theorem dX9_gainOf_77 : decode cX9_gainOf 77 = .ok (.goto (-68), 3) := by decide +kernel
theorem dX9_gainOf_80 : decode cX9_gainOf 80 = .ok (.iload_n 2, 1) := by decide +kernel
theorem dX9_gainOf_81 : decode cX9_gainOf 81 = .ok (.ireturn, 1) := by decide +kernel
theorem dX9_coversNone_0 : decode cX9_coversNone 0 = .ok (.iconst 0, 1) := by decide +kernel
theorem dX9_coversNone_1 : decode cX9_coversNone 1 = .ok (.istore_n 1, 1) := by decide +kernel
theorem dX9_coversNone_2 : decode cX9_coversNone 2 = .ok (.iload_n 1, 1) := by decide +kernel
theorem dX9_coversNone_3 : decode cX9_coversNone 3 = .ok (.sipush 702, 3) := by decide +kernel
theorem dX9_coversNone_6 : decode cX9_coversNone 6 = .ok (.if_icmp .ge 16, 3) := by decide +kernel
theorem dX9_coversNone_9 : decode cX9_coversNone 9 = .ok (.aload_n 0, 1) := by decide +kernel
theorem dX9_coversNone_10 : decode cX9_coversNone 10 = .ok (.getfield 34, 3) := by decide +kernel
theorem dX9_coversNone_13 : decode cX9_coversNone 13 = .ok (.iload_n 1, 1) := by decide +kernel
theorem dX9_coversNone_14 : decode cX9_coversNone 14 = .ok (.iconst 0, 1) := by decide +kernel
theorem dX9_coversNone_15 : decode cX9_coversNone 15 = .ok (.iastore, 1) := by decide +kernel
theorem dX9_coversNone_16 : decode cX9_coversNone 16 = .ok (.iinc 1 1, 3) := by decide +kernel
theorem dX9_coversNone_19 : decode cX9_coversNone 19 = .ok (.goto (-17), 3) := by decide +kernel
theorem dX9_coversNone_22 : decode cX9_coversNone 22 = .ok (.return_, 1) := by decide +kernel
theorem dX9_isOnSheet_0 : decode cX9_isOnSheet 0 = .ok (.iconst 0, 1) := by decide +kernel
theorem dX9_isOnSheet_1 : decode cX9_isOnSheet 1 = .ok (.istore_n 2, 1) := by decide +kernel
theorem dX9_isOnSheet_2 : decode cX9_isOnSheet 2 = .ok (.iconst 0, 1) := by decide +kernel
theorem dX9_isOnSheet_3 : decode cX9_isOnSheet 3 = .ok (.istore_n 3, 1) := by decide +kernel
theorem dX9_isOnSheet_4 : decode cX9_isOnSheet 4 = .ok (.iload_n 3, 1) := by decide +kernel
theorem dX9_isOnSheet_5 : decode cX9_isOnSheet 5 = .ok (.aload_n 0, 1) := by decide +kernel
theorem dX9_isOnSheet_6 : decode cX9_isOnSheet 6 = .ok (.getfield 93, 3) := by decide +kernel
theorem dX9_isOnSheet_9 : decode cX9_isOnSheet 9 = .ok (.if_icmp .ge 29, 3) := by decide +kernel
theorem dX9_isOnSheet_12 : decode cX9_isOnSheet 12 = .ok (.iload_n 2, 1) := by decide +kernel
theorem dX9_isOnSheet_13 : decode cX9_isOnSheet 13 = .ok (.ifCond .ne 13, 3) := by decide +kernel
theorem dX9_isOnSheet_16 : decode cX9_isOnSheet 16 = .ok (.aload_n 0, 1) := by decide +kernel
theorem dX9_isOnSheet_17 : decode cX9_isOnSheet 17 = .ok (.getfield 28, 3) := by decide +kernel
theorem dX9_isOnSheet_20 : decode cX9_isOnSheet 20 = .ok (.iload_n 3, 1) := by decide +kernel
theorem dX9_isOnSheet_21 : decode cX9_isOnSheet 21 = .ok (.iaload, 1) := by decide +kernel
theorem dX9_isOnSheet_22 : decode cX9_isOnSheet 22 = .ok (.iload_n 1, 1) := by decide +kernel
theorem dX9_isOnSheet_23 : decode cX9_isOnSheet 23 = .ok (.if_icmp .ne 7, 3) := by decide +kernel
theorem dX9_isOnSheet_26 : decode cX9_isOnSheet 26 = .ok (.iconst 1, 1) := by decide +kernel
theorem dX9_isOnSheet_27 : decode cX9_isOnSheet 27 = .ok (.goto 4, 3) := by decide +kernel
theorem dX9_isOnSheet_30 : decode cX9_isOnSheet 30 = .ok (.iconst 0, 1) := by decide +kernel
theorem dX9_isOnSheet_31 : decode cX9_isOnSheet 31 = .ok (.istore_n 2, 1) := by decide +kernel
theorem dX9_isOnSheet_32 : decode cX9_isOnSheet 32 = .ok (.iinc 3 1, 3) := by decide +kernel
theorem dX9_isOnSheet_35 : decode cX9_isOnSheet 35 = .ok (.goto (-31), 3) := by decide +kernel
theorem dX9_isOnSheet_38 : decode cX9_isOnSheet 38 = .ok (.iload_n 2, 1) := by decide +kernel
theorem dX9_isOnSheet_39 : decode cX9_isOnSheet 39 = .ok (.ireturn, 1) := by decide +kernel
set_option maxRecDepth 20000 in
theorem ggX9_nextWord_X9_isOnSheet : GoodIn wsX9_nextWord wsX9_isOnSheet := goodIn_r _ [6, 7, 8, 43, 44, 45, 46, 47, 48, 49, 50, 51, 52, 53, 54, 55, 56, 57, 58, 59, 60, 61] (by decide +kernel) (by decide +kernel)
set_option maxRecDepth 20000 in
theorem gX9_nextWord_X9_isOnSheet : GoodIn wsX9_nextWord (wsV RX9 96 RX9 yX9_isOnSheet wsX9_isOnSheet) := goodIn_app (goodIn_of _ (by decide +kernel)) ggX9_nextWord_X9_isOnSheet
set_option maxRecDepth 20000 in
theorem ggX9_nextWord_X9_gainOf : GoodIn wsX9_nextWord wsX9_gainOf := goodIn_r _ [12, 13, 14, 1, 15, 16, 17, 18, 5, 19, 20, 21, 22, 23, 24, 25, 26, 27, 28, 29, 30, 31, 32, 33, 34, 35, 36, 37, 38, 39, 40, 41, 42, 43, 44, 45, 46, 47, 48, 49, 50, 51, 52, 53, 54, 55, 56, 57, 58, 59, 60, 61] (by decide +kernel) (by decide +kernel)
set_option maxRecDepth 20000 in
theorem gX9_nextWord_X9_gainOf : GoodIn wsX9_nextWord (wsV RX9 99 RX9 yX9_gainOf wsX9_gainOf) := goodIn_app (goodIn_of _ (by decide +kernel)) ggX9_nextWord_X9_gainOf
set_option maxRecDepth 20000 in
theorem ggX9_nextWord_X9_sizeOf : GoodIn wsX9_nextWord wsX9_sizeOf := goodIn_r _ [23, 1, 43, 44, 45, 46, 47, 48, 49, 50, 51, 52, 53, 54, 55, 56, 57, 58, 59, 60, 61] (by decide +kernel) (by decide +kernel)
set_option maxRecDepth 20000 in
theorem gX9_nextWord_X9_sizeOf : GoodIn wsX9_nextWord (wsV RX9 64 RX9 yX9_sizeOf wsX9_sizeOf) := goodIn_app (goodIn_of _ (by decide +kernel)) ggX9_nextWord_X9_sizeOf
theorem dX9_nextWord_0 : decode cX9_nextWord 0 = .ok (.bipush (-5), 2) := by decide +kernel
theorem dX9_nextWord_2 : decode cX9_nextWord 2 = .ok (.istore_n 1, 1) := by decide +kernel
theorem dX9_nextWord_3 : decode cX9_nextWord 3 = .ok (.iconst 0, 1) := by decide +kernel
theorem dX9_nextWord_4 : decode cX9_nextWord 4 = .ok (.istore_n 2, 1) := by decide +kernel
theorem dX9_nextWord_5 : decode cX9_nextWord 5 = .ok (.iconst 0, 1) := by decide +kernel
theorem dX9_nextWord_6 : decode cX9_nextWord 6 = .ok (.istore_n 3, 1) := by decide +kernel
theorem dX9_nextWord_7 : decode cX9_nextWord 7 = .ok (.iload_n 3, 1) := by decide +kernel
theorem dX9_nextWord_8 : decode cX9_nextWord 8 = .ok (.aload_n 0, 1) := by decide +kernel
theorem dX9_nextWord_9 : decode cX9_nextWord 9 = .ok (.getfield 7, 3) := by decide +kernel
theorem dX9_nextWord_12 : decode cX9_nextWord 12 = .ok (.iconst 5, 1) := by decide +kernel
theorem dX9_nextWord_13 : decode cX9_nextWord 13 = .ok (.iaload, 1) := by decide +kernel
theorem dX9_nextWord_14 : decode cX9_nextWord 14 = .ok (.if_icmp .ge 89, 3) := by decide +kernel
theorem dX9_nextWord_17 : decode cX9_nextWord 17 = .ok (.aload_n 0, 1) := by decide +kernel
theorem dX9_nextWord_18 : decode cX9_nextWord 18 = .ok (.iload_n 3, 1) := by decide +kernel
theorem dX9_nextWord_19 : decode cX9_nextWord 19 = .ok (.invokevirtual 96, 3) := by decide +kernel
theorem dX9_nextWord_22 : decode cX9_nextWord 22 = .ok (.ifCond .eq 7, 3) := by decide +kernel
theorem dX9_nextWord_25 : decode cX9_nextWord 25 = .ok (.iconst 0, 1) := by decide +kernel
theorem dX9_nextWord_26 : decode cX9_nextWord 26 = .ok (.goto 8, 3) := by decide +kernel
theorem dX9_nextWord_29 : decode cX9_nextWord 29 = .ok (.aload_n 0, 1) := by decide +kernel
theorem dX9_nextWord_30 : decode cX9_nextWord 30 = .ok (.iload_n 3, 1) := by decide +kernel
theorem dX9_nextWord_31 : decode cX9_nextWord 31 = .ok (.invokevirtual 99, 3) := by decide +kernel
theorem dX9_nextWord_34 : decode cX9_nextWord 34 = .ok (.istore 4, 2) := by decide +kernel
theorem dX9_nextWord_36 : decode cX9_nextWord 36 = .ok (.iload 4, 2) := by decide +kernel
theorem dX9_nextWord_38 : decode cX9_nextWord 38 = .ok (.iload_n 2, 1) := by decide +kernel
theorem dX9_nextWord_39 : decode cX9_nextWord 39 = .ok (.if_icmp .gt 28, 3) := by decide +kernel
theorem dX9_nextWord_42 : decode cX9_nextWord 42 = .ok (.iload_n 1, 1) := by decide +kernel
theorem dX9_nextWord_43 : decode cX9_nextWord 43 = .ok (.bipush (-5), 2) := by decide +kernel
theorem dX9_nextWord_45 : decode cX9_nextWord 45 = .ok (.if_icmp .eq 26, 3) := by decide +kernel
theorem dX9_nextWord_48 : decode cX9_nextWord 48 = .ok (.iload 4, 2) := by decide +kernel
theorem dX9_nextWord_50 : decode cX9_nextWord 50 = .ok (.iload_n 2, 1) := by decide +kernel
theorem dX9_nextWord_51 : decode cX9_nextWord 51 = .ok (.if_icmp .ne 20, 3) := by decide +kernel
theorem dX9_nextWord_54 : decode cX9_nextWord 54 = .ok (.aload_n 0, 1) := by decide +kernel
theorem dX9_nextWord_55 : decode cX9_nextWord 55 = .ok (.iload_n 3, 1) := by decide +kernel
theorem dX9_nextWord_56 : decode cX9_nextWord 56 = .ok (.invokevirtual 64, 3) := by decide +kernel
theorem dX9_nextWord_59 : decode cX9_nextWord 59 = .ok (.aload_n 0, 1) := by decide +kernel
theorem dX9_nextWord_60 : decode cX9_nextWord 60 = .ok (.iload_n 1, 1) := by decide +kernel
theorem dX9_nextWord_61 : decode cX9_nextWord 61 = .ok (.invokevirtual 64, 3) := by decide +kernel
theorem dX9_nextWord_64 : decode cX9_nextWord 64 = .ok (.if_icmp .ge 7, 3) := by decide +kernel
theorem dX9_nextWord_67 : decode cX9_nextWord 67 = .ok (.iconst 1, 1) := by decide +kernel
theorem dX9_nextWord_68 : decode cX9_nextWord 68 = .ok (.goto 4, 3) := by decide +kernel
theorem dX9_nextWord_71 : decode cX9_nextWord 71 = .ok (.iconst 0, 1) := by decide +kernel
theorem dX9_nextWord_72 : decode cX9_nextWord 72 = .ok (.istore 5, 2) := by decide +kernel
theorem dX9_nextWord_74 : decode cX9_nextWord 74 = .ok (.iload 5, 2) := by decide +kernel
theorem dX9_nextWord_76 : decode cX9_nextWord 76 = .ok (.ifCond .eq 7, 3) := by decide +kernel
theorem dX9_nextWord_79 : decode cX9_nextWord 79 = .ok (.iload_n 3, 1) := by decide +kernel
theorem dX9_nextWord_80 : decode cX9_nextWord 80 = .ok (.goto 4, 3) := by decide +kernel
theorem dX9_nextWord_83 : decode cX9_nextWord 83 = .ok (.iload_n 1, 1) := by decide +kernel
theorem dX9_nextWord_84 : decode cX9_nextWord 84 = .ok (.istore_n 1, 1) := by decide +kernel
theorem dX9_nextWord_85 : decode cX9_nextWord 85 = .ok (.iload 5, 2) := by decide +kernel
theorem dX9_nextWord_87 : decode cX9_nextWord 87 = .ok (.ifCond .eq 8, 3) := by decide +kernel
theorem dX9_nextWord_90 : decode cX9_nextWord 90 = .ok (.iload 4, 2) := by decide +kernel
theorem dX9_nextWord_92 : decode cX9_nextWord 92 = .ok (.goto 4, 3) := by decide +kernel
theorem dX9_nextWord_95 : decode cX9_nextWord 95 = .ok (.iload_n 2, 1) := by decide +kernel
theorem dX9_nextWord_96 : decode cX9_nextWord 96 = .ok (.istore_n 2, 1) := by decide +kernel
theorem dX9_nextWord_97 : decode cX9_nextWord 97 = .ok (.iinc 3 1, 3) := by decide +kernel
theorem dX9_nextWord_100 : decode cX9_nextWord 100 = .ok (.goto (-93), 3) := by decide +kernel
theorem dX9_nextWord_103 : decode cX9_nextWord 103 = .ok (.iload_n 1, 1) := by decide +kernel
theorem dX9_nextWord_104 : decode cX9_nextWord 104 = .ok (.ireturn, 1) := by decide +kernel
set_option maxRecDepth 20000 in
theorem ggX9_makesSheet_X9_coversNone : GoodIn wsX9_makesSheet wsX9_coversNone := goodIn_r _ [11, 5, 52, 53, 54, 55, 56, 57, 58, 59, 60, 61, 62, 63, 64, 65, 66, 67, 68, 69, 70] (by decide +kernel) (by decide +kernel)
set_option maxRecDepth 20000 in
theorem gX9_makesSheet_X9_coversNone : GoodIn wsX9_makesSheet (wsV RX9 102 RX9 yX9_coversNone wsX9_coversNone) := goodIn_app (goodIn_of _ (by decide +kernel)) ggX9_makesSheet_X9_coversNone
set_option maxRecDepth 20000 in
theorem ggX9_makesSheet_X9_nextWord : GoodIn wsX9_makesSheet wsX9_nextWord := goodIn_r _ [15, 16, 17, 18, 19, 10, 20, 1, 2, 21, 22, 23, 24, 4, 6, 5, 25, 26, 27, 28, 29, 30, 31, 32, 33, 34, 35, 36, 37, 38, 39, 40, 41, 42, 43, 44, 45, 46, 47, 48, 49, 50, 51, 52, 53, 54, 55, 56, 57, 58, 59, 60, 61, 62, 63, 64, 65, 66, 67, 68, 69, 70] (by decide +kernel) (by decide +kernel)
set_option maxRecDepth 20000 in
theorem gX9_makesSheet_X9_nextWord : GoodIn wsX9_makesSheet (wsV RX9 105 RX9 yX9_nextWord wsX9_nextWord) := goodIn_app (goodIn_of _ (by decide +kernel)) ggX9_makesSheet_X9_nextWord
set_option maxRecDepth 20000 in
theorem ggX9_makesSheet_X9_gainOf : GoodIn wsX9_makesSheet wsX9_gainOf := goodIn_r _ [24, 4, 6, 16, 5, 25, 26, 27, 10, 28, 29, 30, 31, 32, 33, 34, 35, 36, 37, 38, 39, 40, 41, 42, 43, 44, 45, 46, 47, 48, 49, 50, 51, 52, 53, 54, 55, 56, 57, 58, 59, 60, 61, 62, 63, 64, 65, 66, 67, 68, 69, 70] (by decide +kernel) (by decide +kernel)
set_option maxRecDepth 20000 in
theorem gX9_makesSheet_X9_gainOf : GoodIn wsX9_makesSheet (wsV RX9 99 RX9 yX9_gainOf wsX9_gainOf) := goodIn_app (goodIn_of _ (by decide +kernel)) ggX9_makesSheet_X9_gainOf
theorem dX9_makesSheet_0 : decode cX9_makesSheet 0 = .ok (.aload_n 0, 1) := by decide +kernel
theorem dX9_makesSheet_1 : decode cX9_makesSheet 1 = .ok (.iconst 0, 1) := by decide +kernel
theorem dX9_makesSheet_2 : decode cX9_makesSheet 2 = .ok (.putfield 93, 3) := by decide +kernel
theorem dX9_makesSheet_5 : decode cX9_makesSheet 5 = .ok (.aload_n 0, 1) := by decide +kernel
theorem dX9_makesSheet_6 : decode cX9_makesSheet 6 = .ok (.invokevirtual 102, 3) := by decide +kernel
theorem dX9_makesSheet_9 : decode cX9_makesSheet 9 = .ok (.iload_n 1, 1) := by decide +kernel
theorem dX9_makesSheet_10 : decode cX9_makesSheet 10 = .ok (.ifCond .le 10, 3) := by decide +kernel
theorem dX9_makesSheet_13 : decode cX9_makesSheet 13 = .ok (.aload_n 0, 1) := by decide +kernel
theorem dX9_makesSheet_14 : decode cX9_makesSheet 14 = .ok (.invokevirtual 105, 3) := by decide +kernel
theorem dX9_makesSheet_17 : decode cX9_makesSheet 17 = .ok (.goto 5, 3) := by decide +kernel
theorem dX9_makesSheet_20 : decode cX9_makesSheet 20 = .ok (.bipush (-5), 2) := by decide +kernel
theorem dX9_makesSheet_22 : decode cX9_makesSheet 22 = .ok (.istore_n 2, 1) := by decide +kernel
theorem dX9_makesSheet_23 : decode cX9_makesSheet 23 = .ok (.iload_n 2, 1) := by decide +kernel
theorem dX9_makesSheet_24 : decode cX9_makesSheet 24 = .ok (.bipush (-5), 2) := by decide +kernel
theorem dX9_makesSheet_26 : decode cX9_makesSheet 26 = .ok (.if_icmp .eq 86, 3) := by decide +kernel
theorem dX9_makesSheet_29 : decode cX9_makesSheet 29 = .ok (.aload_n 0, 1) := by decide +kernel
theorem dX9_makesSheet_30 : decode cX9_makesSheet 30 = .ok (.getfield 28, 3) := by decide +kernel
theorem dX9_makesSheet_33 : decode cX9_makesSheet 33 = .ok (.aload_n 0, 1) := by decide +kernel
theorem dX9_makesSheet_34 : decode cX9_makesSheet 34 = .ok (.getfield 93, 3) := by decide +kernel
theorem dX9_makesSheet_37 : decode cX9_makesSheet 37 = .ok (.iload_n 2, 1) := by decide +kernel
theorem dX9_makesSheet_38 : decode cX9_makesSheet 38 = .ok (.iastore, 1) := by decide +kernel
theorem dX9_makesSheet_39 : decode cX9_makesSheet 39 = .ok (.aload_n 0, 1) := by decide +kernel
theorem dX9_makesSheet_40 : decode cX9_makesSheet 40 = .ok (.getfield 31, 3) := by decide +kernel
theorem dX9_makesSheet_43 : decode cX9_makesSheet 43 = .ok (.aload_n 0, 1) := by decide +kernel
theorem dX9_makesSheet_44 : decode cX9_makesSheet 44 = .ok (.getfield 93, 3) := by decide +kernel
theorem dX9_makesSheet_47 : decode cX9_makesSheet 47 = .ok (.aload_n 0, 1) := by decide +kernel
theorem dX9_makesSheet_48 : decode cX9_makesSheet 48 = .ok (.iload_n 2, 1) := by decide +kernel
theorem dX9_makesSheet_49 : decode cX9_makesSheet 49 = .ok (.invokevirtual 99, 3) := by decide +kernel
theorem dX9_makesSheet_52 : decode cX9_makesSheet 52 = .ok (.iastore, 1) := by decide +kernel
theorem dX9_makesSheet_53 : decode cX9_makesSheet 53 = .ok (.aload_n 0, 1) := by decide +kernel
theorem dX9_makesSheet_54 : decode cX9_makesSheet 54 = .ok (.dup, 1) := by decide +kernel
theorem dX9_makesSheet_55 : decode cX9_makesSheet 55 = .ok (.getfield 93, 3) := by decide +kernel
theorem dX9_makesSheet_58 : decode cX9_makesSheet 58 = .ok (.iconst 1, 1) := by decide +kernel
theorem dX9_makesSheet_59 : decode cX9_makesSheet 59 = .ok (.iadd, 1) := by decide +kernel
theorem dX9_makesSheet_60 : decode cX9_makesSheet 60 = .ok (.putfield 93, 3) := by decide +kernel
theorem dX9_makesSheet_63 : decode cX9_makesSheet 63 = .ok (.iconst 0, 1) := by decide +kernel
theorem dX9_makesSheet_64 : decode cX9_makesSheet 64 = .ok (.istore_n 3, 1) := by decide +kernel
theorem dX9_makesSheet_65 : decode cX9_makesSheet 65 = .ok (.iload_n 3, 1) := by decide +kernel
theorem dX9_makesSheet_66 : decode cX9_makesSheet 66 = .ok (.aload_n 0, 1) := by decide +kernel
theorem dX9_makesSheet_67 : decode cX9_makesSheet 67 = .ok (.getfield 61, 3) := by decide +kernel
theorem dX9_makesSheet_70 : decode cX9_makesSheet 70 = .ok (.if_icmp .ge 21, 3) := by decide +kernel
theorem dX9_makesSheet_73 : decode cX9_makesSheet 73 = .ok (.aload_n 0, 1) := by decide +kernel
theorem dX9_makesSheet_74 : decode cX9_makesSheet 74 = .ok (.getfield 34, 3) := by decide +kernel
theorem dX9_makesSheet_77 : decode cX9_makesSheet 77 = .ok (.aload_n 0, 1) := by decide +kernel
theorem dX9_makesSheet_78 : decode cX9_makesSheet 78 = .ok (.getfield 25, 3) := by decide +kernel
theorem dX9_makesSheet_81 : decode cX9_makesSheet 81 = .ok (.iload_n 3, 1) := by decide +kernel
theorem dX9_makesSheet_82 : decode cX9_makesSheet 82 = .ok (.iaload, 1) := by decide +kernel
theorem dX9_makesSheet_83 : decode cX9_makesSheet 83 = .ok (.iconst 1, 1) := by decide +kernel
theorem dX9_makesSheet_84 : decode cX9_makesSheet 84 = .ok (.iastore, 1) := by decide +kernel
theorem dX9_makesSheet_85 : decode cX9_makesSheet 85 = .ok (.iinc 3 1, 3) := by decide +kernel
theorem dX9_makesSheet_88 : decode cX9_makesSheet 88 = .ok (.goto (-23), 3) := by decide +kernel
theorem dX9_makesSheet_91 : decode cX9_makesSheet 91 = .ok (.aload_n 0, 1) := by decide +kernel
theorem dX9_makesSheet_92 : decode cX9_makesSheet 92 = .ok (.getfield 93, 3) := by decide +kernel
theorem dX9_makesSheet_95 : decode cX9_makesSheet 95 = .ok (.iload_n 1, 1) := by decide +kernel
theorem dX9_makesSheet_96 : decode cX9_makesSheet 96 = .ok (.if_icmp .ge 10, 3) := by decide +kernel
theorem dX9_makesSheet_99 : decode cX9_makesSheet 99 = .ok (.aload_n 0, 1) := by decide +kernel
theorem dX9_makesSheet_100 : decode cX9_makesSheet 100 = .ok (.invokevirtual 105, 3) := by decide +kernel
theorem dX9_makesSheet_103 : decode cX9_makesSheet 103 = .ok (.goto 5, 3) := by decide +kernel
theorem dX9_makesSheet_106 : decode cX9_makesSheet 106 = .ok (.bipush (-5), 2) := by decide +kernel
theorem dX9_makesSheet_108 : decode cX9_makesSheet 108 = .ok (.istore_n 2, 1) := by decide +kernel
theorem dX9_makesSheet_109 : decode cX9_makesSheet 109 = .ok (.goto (-86), 3) := by decide +kernel
theorem dX9_makesSheet_112 : decode cX9_makesSheet 112 = .ok (.return_, 1) := by decide +kernel
set_option maxRecDepth 20000 in
theorem ggX9_writesSheet_X9_sizeOf : GoodIn wsX9_writesSheet wsX9_sizeOf := goodIn_r _ [8, 3, 20, 21, 22, 23, 24, 25, 26, 27, 28, 29, 30, 31, 32, 33, 34, 35, 36, 37, 38] (by decide +kernel) (by decide +kernel)
set_option maxRecDepth 20000 in
theorem gX9_writesSheet_X9_sizeOf : GoodIn wsX9_writesSheet (wsV RX9 64 RX9 yX9_sizeOf wsX9_sizeOf) := goodIn_app (goodIn_of _ (by decide +kernel)) ggX9_writesSheet_X9_sizeOf
set_option maxRecDepth 20000 in
theorem ggX9_writesSheet_X9_letterAt : GoodIn wsX9_writesSheet wsX9_letterAt := goodIn_r _ [12, 3, 20, 21, 22, 23, 24, 25, 26, 27, 28, 29, 30, 31, 32, 33, 34, 35, 36, 37, 38] (by decide +kernel) (by decide +kernel)
set_option maxRecDepth 20000 in
theorem gX9_writesSheet_X9_letterAt : GoodIn wsX9_writesSheet (wsV RX9 68 RX9 yX9_letterAt wsX9_letterAt) := goodIn_app (goodIn_of _ (by decide +kernel)) ggX9_writesSheet_X9_letterAt
set_option maxRecDepth 20000 in
theorem ggX9_writesSheet_X9_tries : GoodIn wsX9_writesSheet wsX9_tries := goodIn_r _ [16, 3, 20, 21, 22, 23, 24, 25, 26, 27, 28, 29, 30, 31, 32, 33, 34, 35, 36, 37, 38] (by decide +kernel) (by decide +kernel)
set_option maxRecDepth 20000 in
theorem gX9_writesSheet_X9_tries : GoodIn wsX9_writesSheet (wsV RX9 109 RX9 yX9_tries wsX9_tries) := goodIn_app (goodIn_of _ (by decide +kernel)) ggX9_writesSheet_X9_tries
set_option maxRecDepth 20000 in
theorem ggX9_writesSheet_X9_joinOf : GoodIn wsX9_writesSheet wsX9_joinOf := goodIn_r _ [19] (by decide +kernel) (by decide +kernel)
set_option maxRecDepth 20000 in
theorem gX9_writesSheet_X9_joinOf : GoodIn wsX9_writesSheet (va_wsS RX9 76 yX9_joinOf wsX9_joinOf) := goodIn_app (goodIn_of _ (by decide +kernel)) ggX9_writesSheet_X9_joinOf
theorem dX9_writesSheet_0 : decode cX9_writesSheet 0 = .ok (.iconst 0, 1) := by decide +kernel
theorem dX9_writesSheet_1 : decode cX9_writesSheet 1 = .ok (.istore_n 1, 1) := by decide +kernel
theorem dX9_writesSheet_2 : decode cX9_writesSheet 2 = .ok (.iload_n 1, 1) := by decide +kernel
theorem dX9_writesSheet_3 : decode cX9_writesSheet 3 = .ok (.aload_n 0, 1) := by decide +kernel
theorem dX9_writesSheet_4 : decode cX9_writesSheet 4 = .ok (.getfield 93, 3) := by decide +kernel
theorem dX9_writesSheet_7 : decode cX9_writesSheet 7 = .ok (.if_icmp .ge 70, 3) := by decide +kernel
theorem dX9_writesSheet_10 : decode cX9_writesSheet 10 = .ok (.aload_n 0, 1) := by decide +kernel
theorem dX9_writesSheet_11 : decode cX9_writesSheet 11 = .ok (.getfield 28, 3) := by decide +kernel
theorem dX9_writesSheet_14 : decode cX9_writesSheet 14 = .ok (.iload_n 1, 1) := by decide +kernel
theorem dX9_writesSheet_15 : decode cX9_writesSheet 15 = .ok (.iaload, 1) := by decide +kernel
theorem dX9_writesSheet_16 : decode cX9_writesSheet 16 = .ok (.istore_n 2, 1) := by decide +kernel
theorem dX9_writesSheet_17 : decode cX9_writesSheet 17 = .ok (.iconst 0, 1) := by decide +kernel
theorem dX9_writesSheet_18 : decode cX9_writesSheet 18 = .ok (.istore_n 3, 1) := by decide +kernel
theorem dX9_writesSheet_19 : decode cX9_writesSheet 19 = .ok (.iload_n 3, 1) := by decide +kernel
theorem dX9_writesSheet_20 : decode cX9_writesSheet 20 = .ok (.aload_n 0, 1) := by decide +kernel
theorem dX9_writesSheet_21 : decode cX9_writesSheet 21 = .ok (.iload_n 2, 1) := by decide +kernel
theorem dX9_writesSheet_22 : decode cX9_writesSheet 22 = .ok (.invokevirtual 64, 3) := by decide +kernel
theorem dX9_writesSheet_25 : decode cX9_writesSheet 25 = .ok (.if_icmp .ge 46, 3) := by decide +kernel
theorem dX9_writesSheet_28 : decode cX9_writesSheet 28 = .ok (.aload_n 0, 1) := by decide +kernel
theorem dX9_writesSheet_29 : decode cX9_writesSheet 29 = .ok (.aload_n 0, 1) := by decide +kernel
theorem dX9_writesSheet_30 : decode cX9_writesSheet 30 = .ok (.iload_n 2, 1) := by decide +kernel
theorem dX9_writesSheet_31 : decode cX9_writesSheet 31 = .ok (.iload_n 3, 1) := by decide +kernel
theorem dX9_writesSheet_32 : decode cX9_writesSheet 32 = .ok (.invokevirtual 68, 3) := by decide +kernel
theorem dX9_writesSheet_35 : decode cX9_writesSheet 35 = .ok (.iconst 0, 1) := by decide +kernel
theorem dX9_writesSheet_36 : decode cX9_writesSheet 36 = .ok (.invokevirtual 109, 3) := by decide +kernel
theorem dX9_writesSheet_39 : decode cX9_writesSheet 39 = .ok (.iload_n 3, 1) := by decide +kernel
theorem dX9_writesSheet_40 : decode cX9_writesSheet 40 = .ok (.ifCond .le 25, 3) := by decide +kernel
theorem dX9_writesSheet_43 : decode cX9_writesSheet 43 = .ok (.aload_n 0, 1) := by decide +kernel
theorem dX9_writesSheet_44 : decode cX9_writesSheet 44 = .ok (.aload_n 0, 1) := by decide +kernel
theorem dX9_writesSheet_45 : decode cX9_writesSheet 45 = .ok (.iload_n 2, 1) := by decide +kernel
theorem dX9_writesSheet_46 : decode cX9_writesSheet 46 = .ok (.iload_n 3, 1) := by decide +kernel
theorem dX9_writesSheet_47 : decode cX9_writesSheet 47 = .ok (.iconst 1, 1) := by decide +kernel
theorem dX9_writesSheet_48 : decode cX9_writesSheet 48 = .ok (.isub, 1) := by decide +kernel
theorem dX9_writesSheet_49 : decode cX9_writesSheet 49 = .ok (.invokevirtual 68, 3) := by decide +kernel
theorem dX9_writesSheet_52 : decode cX9_writesSheet 52 = .ok (.aload_n 0, 1) := by decide +kernel
theorem dX9_writesSheet_53 : decode cX9_writesSheet 53 = .ok (.iload_n 2, 1) := by decide +kernel
theorem dX9_writesSheet_54 : decode cX9_writesSheet 54 = .ok (.iload_n 3, 1) := by decide +kernel
theorem dX9_writesSheet_55 : decode cX9_writesSheet 55 = .ok (.invokevirtual 68, 3) := by decide +kernel
theorem dX9_writesSheet_58 : decode cX9_writesSheet 58 = .ok (.invokestatic 76, 3) := by decide +kernel
theorem dX9_writesSheet_61 : decode cX9_writesSheet 61 = .ok (.iconst 0, 1) := by decide +kernel
theorem dX9_writesSheet_62 : decode cX9_writesSheet 62 = .ok (.invokevirtual 109, 3) := by decide +kernel
theorem dX9_writesSheet_65 : decode cX9_writesSheet 65 = .ok (.iinc 3 1, 3) := by decide +kernel
theorem dX9_writesSheet_68 : decode cX9_writesSheet 68 = .ok (.goto (-49), 3) := by decide +kernel
theorem dX9_writesSheet_71 : decode cX9_writesSheet 71 = .ok (.iinc 1 1, 3) := by decide +kernel
theorem dX9_writesSheet_74 : decode cX9_writesSheet 74 = .ok (.goto (-72), 3) := by decide +kernel
theorem dX9_writesSheet_77 : decode cX9_writesSheet 77 = .ok (.aload_n 0, 1) := by decide +kernel
theorem dX9_writesSheet_78 : decode cX9_writesSheet 78 = .ok (.getfield 7, 3) := by decide +kernel
theorem dX9_writesSheet_81 : decode cX9_writesSheet 81 = .ok (.iconst 2, 1) := by decide +kernel
theorem dX9_writesSheet_82 : decode cX9_writesSheet 82 = .ok (.dup2, 1) := by decide +kernel
theorem dX9_writesSheet_83 : decode cX9_writesSheet 83 = .ok (.iaload, 1) := by decide +kernel
theorem dX9_writesSheet_84 : decode cX9_writesSheet 84 = .ok (.aload_n 0, 1) := by decide +kernel
theorem dX9_writesSheet_85 : decode cX9_writesSheet 85 = .ok (.getfield 93, 3) := by decide +kernel
theorem dX9_writesSheet_88 : decode cX9_writesSheet 88 = .ok (.iadd, 1) := by decide +kernel
theorem dX9_writesSheet_89 : decode cX9_writesSheet 89 = .ok (.iastore, 1) := by decide +kernel
theorem dX9_writesSheet_90 : decode cX9_writesSheet 90 = .ok (.aload_n 0, 1) := by decide +kernel
theorem dX9_writesSheet_91 : decode cX9_writesSheet 91 = .ok (.getfield 7, 3) := by decide +kernel
theorem dX9_writesSheet_94 : decode cX9_writesSheet 94 = .ok (.iconst 4, 1) := by decide +kernel
theorem dX9_writesSheet_95 : decode cX9_writesSheet 95 = .ok (.dup2, 1) := by decide +kernel
theorem dX9_writesSheet_96 : decode cX9_writesSheet 96 = .ok (.iaload, 1) := by decide +kernel
theorem dX9_writesSheet_97 : decode cX9_writesSheet 97 = .ok (.iconst 1, 1) := by decide +kernel
theorem dX9_writesSheet_98 : decode cX9_writesSheet 98 = .ok (.iadd, 1) := by decide +kernel
theorem dX9_writesSheet_99 : decode cX9_writesSheet 99 = .ok (.iastore, 1) := by decide +kernel
theorem dX9_writesSheet_100 : decode cX9_writesSheet 100 = .ok (.return_, 1) := by decide +kernel
theorem dX9_type_0 : decode cX9_type 0 = .ok (.aload_n 0, 1) := by decide +kernel
theorem dX9_type_1 : decode cX9_type 1 = .ok (.getfield 113, 3) := by decide +kernel
theorem dX9_type_4 : decode cX9_type 4 = .ok (.bipush 60, 2) := by decide +kernel
theorem dX9_type_6 : decode cX9_type 6 = .ok (.if_icmp .ne 6, 3) := by decide +kernel
theorem dX9_type_9 : decode cX9_type 9 = .ok (.bipush (-3), 2) := by decide +kernel
theorem dX9_type_11 : decode cX9_type 11 = .ok (.ireturn, 1) := by decide +kernel
theorem dX9_type_12 : decode cX9_type 12 = .ok (.aload_n 0, 1) := by decide +kernel
theorem dX9_type_13 : decode cX9_type 13 = .ok (.getfield 37, 3) := by decide +kernel
theorem dX9_type_16 : decode cX9_type 16 = .ok (.aload_n 0, 1) := by decide +kernel
theorem dX9_type_17 : decode cX9_type 17 = .ok (.getfield 113, 3) := by decide +kernel
theorem dX9_type_20 : decode cX9_type 20 = .ok (.iload_n 1, 1) := by decide +kernel
theorem dX9_type_21 : decode cX9_type 21 = .ok (.iastore, 1) := by decide +kernel
theorem dX9_type_22 : decode cX9_type 22 = .ok (.aload_n 0, 1) := by decide +kernel
theorem dX9_type_23 : decode cX9_type 23 = .ok (.dup, 1) := by decide +kernel
theorem dX9_type_24 : decode cX9_type 24 = .ok (.getfield 113, 3) := by decide +kernel
theorem dX9_type_27 : decode cX9_type 27 = .ok (.iconst 1, 1) := by decide +kernel
theorem dX9_type_28 : decode cX9_type 28 = .ok (.iadd, 1) := by decide +kernel
theorem dX9_type_29 : decode cX9_type 29 = .ok (.putfield 113, 3) := by decide +kernel
theorem dX9_type_32 : decode cX9_type 32 = .ok (.aload_n 0, 1) := by decide +kernel
theorem dX9_type_33 : decode cX9_type 33 = .ok (.getfield 113, 3) := by decide +kernel
theorem dX9_type_36 : decode cX9_type 36 = .ok (.ireturn, 1) := by decide +kernel
theorem dX9_clearText_0 : decode cX9_clearText 0 = .ok (.aload_n 0, 1) := by decide +kernel
theorem dX9_clearText_1 : decode cX9_clearText 1 = .ok (.getfield 113, 3) := by decide +kernel
theorem dX9_clearText_4 : decode cX9_clearText 4 = .ok (.istore_n 1, 1) := by decide +kernel
theorem dX9_clearText_5 : decode cX9_clearText 5 = .ok (.aload_n 0, 1) := by decide +kernel
theorem dX9_clearText_6 : decode cX9_clearText 6 = .ok (.iconst 0, 1) := by decide +kernel
theorem dX9_clearText_7 : decode cX9_clearText 7 = .ok (.putfield 113, 3) := by decide +kernel
theorem dX9_clearText_10 : decode cX9_clearText 10 = .ok (.iload_n 1, 1) := by decide +kernel
theorem dX9_clearText_11 : decode cX9_clearText 11 = .ok (.ireturn, 1) := by decide +kernel
set_option maxRecDepth 20000 in
theorem ggX9_isLetter_X9_in : GoodIn wsX9_isLetter wsX9_in := goodIn_r _ [8] (by decide +kernel) (by decide +kernel)
set_option maxRecDepth 20000 in
theorem gX9_isLetter_X9_in : GoodIn wsX9_isLetter (va_wsS RX9 57 yX9_in wsX9_in) := goodIn_app (goodIn_of _ (by decide +kernel)) ggX9_isLetter_X9_in
theorem dX9_isLetter_0 : decode cX9_isLetter 0 = .ok (.iload_n 1, 1) := by decide +kernel
theorem dX9_isLetter_1 : decode cX9_isLetter 1 = .ok (.aload_n 0, 1) := by decide +kernel
theorem dX9_isLetter_2 : decode cX9_isLetter 2 = .ok (.getfield 113, 3) := by decide +kernel
theorem dX9_isLetter_5 : decode cX9_isLetter 5 = .ok (.if_icmp .ge 26, 3) := by decide +kernel
theorem dX9_isLetter_8 : decode cX9_isLetter 8 = .ok (.aload_n 0, 1) := by decide +kernel
theorem dX9_isLetter_9 : decode cX9_isLetter 9 = .ok (.getfield 37, 3) := by decide +kernel
theorem dX9_isLetter_12 : decode cX9_isLetter 12 = .ok (.iload_n 1, 1) := by decide +kernel
theorem dX9_isLetter_13 : decode cX9_isLetter 13 = .ok (.iaload, 1) := by decide +kernel
theorem dX9_isLetter_14 : decode cX9_isLetter 14 = .ok (.i2l, 1) := by decide +kernel
theorem dX9_isLetter_15 : decode cX9_isLetter 15 = .ok (.ldc2_w 116, 3) := by decide +kernel
theorem dX9_isLetter_18 : decode cX9_isLetter 18 = .ok (.ldc2_w 118, 3) := by decide +kernel
theorem dX9_isLetter_21 : decode cX9_isLetter 21 = .ok (.invokestatic 57, 3) := by decide +kernel
theorem dX9_isLetter_24 : decode cX9_isLetter 24 = .ok (.ifCond .eq 7, 3) := by decide +kernel
theorem dX9_isLetter_27 : decode cX9_isLetter 27 = .ok (.iconst 1, 1) := by decide +kernel
theorem dX9_isLetter_28 : decode cX9_isLetter 28 = .ok (.goto 4, 3) := by decide +kernel
theorem dX9_isLetter_31 : decode cX9_isLetter 31 = .ok (.iconst 0, 1) := by decide +kernel
theorem dX9_isLetter_32 : decode cX9_isLetter 32 = .ok (.ireturn, 1) := by decide +kernel
theorem dX9_isThere_0 : decode cX9_isThere 0 = .ok (.iload_n 1, 1) := by decide +kernel
theorem dX9_isThere_1 : decode cX9_isThere 1 = .ok (.aload_n 0, 1) := by decide +kernel
theorem dX9_isThere_2 : decode cX9_isThere 2 = .ok (.getfield 113, 3) := by decide +kernel
theorem dX9_isThere_5 : decode cX9_isThere 5 = .ok (.if_icmp .ge 17, 3) := by decide +kernel
theorem dX9_isThere_8 : decode cX9_isThere 8 = .ok (.aload_n 0, 1) := by decide +kernel
theorem dX9_isThere_9 : decode cX9_isThere 9 = .ok (.getfield 37, 3) := by decide +kernel
theorem dX9_isThere_12 : decode cX9_isThere 12 = .ok (.iload_n 1, 1) := by decide +kernel
theorem dX9_isThere_13 : decode cX9_isThere 13 = .ok (.iaload, 1) := by decide +kernel
theorem dX9_isThere_14 : decode cX9_isThere 14 = .ok (.iload_n 2, 1) := by decide +kernel
theorem dX9_isThere_15 : decode cX9_isThere 15 = .ok (.if_icmp .ne 7, 3) := by decide +kernel
theorem dX9_isThere_18 : decode cX9_isThere 18 = .ok (.iconst 1, 1) := by decide +kernel
theorem dX9_isThere_19 : decode cX9_isThere 19 = .ok (.goto 4, 3) := by decide +kernel
theorem dX9_isThere_22 : decode cX9_isThere 22 = .ok (.iconst 0, 1) := by decide +kernel
theorem dX9_isThere_23 : decode cX9_isThere 23 = .ok (.ireturn, 1) := by decide +kernel
set_option maxRecDepth 20000 in
theorem ggX9_faultOfWriting_X9_isLetter : GoodIn wsX9_faultOfWriting wsX9_isLetter := goodIn_r _ [11, 6, 3, 12, 13, 14, 15, 10, 16, 21, 22, 23, 24, 25, 26, 27, 28, 29, 30, 31, 32, 33, 34, 35, 36, 37, 38, 39] (by decide +kernel) (by decide +kernel)
set_option maxRecDepth 20000 in
theorem gX9_faultOfWriting_X9_isLetter : GoodIn wsX9_faultOfWriting (wsV RX9 123 RX9 yX9_isLetter wsX9_isLetter) := goodIn_app (goodIn_of _ (by decide +kernel)) ggX9_faultOfWriting_X9_isLetter
set_option maxRecDepth 20000 in
theorem ggX9_faultOfWriting_X9_isThere : GoodIn wsX9_faultOfWriting wsX9_isThere := goodIn_r _ [20, 6, 3, 21, 22, 23, 24, 25, 26, 27, 28, 29, 30, 31, 32, 33, 34, 35, 36, 37, 38, 39] (by decide +kernel) (by decide +kernel)
set_option maxRecDepth 20000 in
theorem gX9_faultOfWriting_X9_isThere : GoodIn wsX9_faultOfWriting (wsV RX9 126 RX9 yX9_isThere wsX9_isThere) := goodIn_app (goodIn_of _ (by decide +kernel)) ggX9_faultOfWriting_X9_isThere
theorem dX9_faultOfWriting_0 : decode cX9_faultOfWriting 0 = .ok (.aload_n 0, 1) := by decide +kernel
theorem dX9_faultOfWriting_1 : decode cX9_faultOfWriting 1 = .ok (.iconst 0, 1) := by decide +kernel
theorem dX9_faultOfWriting_2 : decode cX9_faultOfWriting 2 = .ok (.putfield 120, 3) := by decide +kernel
theorem dX9_faultOfWriting_5 : decode cX9_faultOfWriting 5 = .ok (.iconst 0, 1) := by decide +kernel
theorem dX9_faultOfWriting_6 : decode cX9_faultOfWriting 6 = .ok (.istore_n 1, 1) := by decide +kernel
theorem dX9_faultOfWriting_7 : decode cX9_faultOfWriting 7 = .ok (.iconst 1, 1) := by decide +kernel
theorem dX9_faultOfWriting_8 : decode cX9_faultOfWriting 8 = .ok (.istore_n 2, 1) := by decide +kernel
theorem dX9_faultOfWriting_9 : decode cX9_faultOfWriting 9 = .ok (.iload_n 2, 1) := by decide +kernel
theorem dX9_faultOfWriting_10 : decode cX9_faultOfWriting 10 = .ok (.ifCond .eq 167, 3) := by decide +kernel
theorem dX9_faultOfWriting_13 : decode cX9_faultOfWriting 13 = .ok (.aload_n 0, 1) := by decide +kernel
theorem dX9_faultOfWriting_14 : decode cX9_faultOfWriting 14 = .ok (.iload_n 1, 1) := by decide +kernel
theorem dX9_faultOfWriting_15 : decode cX9_faultOfWriting 15 = .ok (.invokevirtual 123, 3) := by decide +kernel
theorem dX9_faultOfWriting_18 : decode cX9_faultOfWriting 18 = .ok (.ifCond .eq 12, 3) := by decide +kernel
theorem dX9_faultOfWriting_21 : decode cX9_faultOfWriting 21 = .ok (.aload_n 0, 1) := by decide +kernel
theorem dX9_faultOfWriting_22 : decode cX9_faultOfWriting 22 = .ok (.getfield 120, 3) := by decide +kernel
theorem dX9_faultOfWriting_25 : decode cX9_faultOfWriting 25 = .ok (.bipush 15, 2) := by decide +kernel
theorem dX9_faultOfWriting_27 : decode cX9_faultOfWriting 27 = .ok (.if_icmp .ne 5, 3) := by decide +kernel
theorem dX9_faultOfWriting_30 : decode cX9_faultOfWriting 30 = .ok (.iload_n 1, 1) := by decide +kernel
theorem dX9_faultOfWriting_31 : decode cX9_faultOfWriting 31 = .ok (.ireturn, 1) := by decide +kernel
theorem dX9_faultOfWriting_32 : decode cX9_faultOfWriting 32 = .ok (.aload_n 0, 1) := by decide +kernel
theorem dX9_faultOfWriting_33 : decode cX9_faultOfWriting 33 = .ok (.getfield 40, 3) := by decide +kernel
theorem dX9_faultOfWriting_36 : decode cX9_faultOfWriting 36 = .ok (.aload_n 0, 1) := by decide +kernel
theorem dX9_faultOfWriting_37 : decode cX9_faultOfWriting 37 = .ok (.getfield 120, 3) := by decide +kernel
theorem dX9_faultOfWriting_40 : decode cX9_faultOfWriting 40 = .ok (.aload_n 0, 1) := by decide +kernel
theorem dX9_faultOfWriting_41 : decode cX9_faultOfWriting 41 = .ok (.getfield 37, 3) := by decide +kernel
theorem dX9_faultOfWriting_44 : decode cX9_faultOfWriting 44 = .ok (.iload_n 1, 1) := by decide +kernel
theorem dX9_faultOfWriting_45 : decode cX9_faultOfWriting 45 = .ok (.iaload, 1) := by decide +kernel
theorem dX9_faultOfWriting_46 : decode cX9_faultOfWriting 46 = .ok (.bipush 97, 2) := by decide +kernel
theorem dX9_faultOfWriting_48 : decode cX9_faultOfWriting 48 = .ok (.isub, 1) := by decide +kernel
theorem dX9_faultOfWriting_49 : decode cX9_faultOfWriting 49 = .ok (.iastore, 1) := by decide +kernel
theorem dX9_faultOfWriting_50 : decode cX9_faultOfWriting 50 = .ok (.iinc 1 1, 3) := by decide +kernel
theorem dX9_faultOfWriting_53 : decode cX9_faultOfWriting 53 = .ok (.aload_n 0, 1) := by decide +kernel
theorem dX9_faultOfWriting_54 : decode cX9_faultOfWriting 54 = .ok (.getfield 43, 3) := by decide +kernel
theorem dX9_faultOfWriting_57 : decode cX9_faultOfWriting 57 = .ok (.aload_n 0, 1) := by decide +kernel
theorem dX9_faultOfWriting_58 : decode cX9_faultOfWriting 58 = .ok (.getfield 120, 3) := by decide +kernel
theorem dX9_faultOfWriting_61 : decode cX9_faultOfWriting 61 = .ok (.aload_n 0, 1) := by decide +kernel
theorem dX9_faultOfWriting_62 : decode cX9_faultOfWriting 62 = .ok (.iload_n 1, 1) := by decide +kernel
theorem dX9_faultOfWriting_63 : decode cX9_faultOfWriting 63 = .ok (.bipush 33, 2) := by decide +kernel
theorem dX9_faultOfWriting_65 : decode cX9_faultOfWriting 65 = .ok (.invokevirtual 126, 3) := by decide +kernel
theorem dX9_faultOfWriting_68 : decode cX9_faultOfWriting 68 = .ok (.ifCond .eq 7, 3) := by decide +kernel
theorem dX9_faultOfWriting_71 : decode cX9_faultOfWriting 71 = .ok (.iconst 1, 1) := by decide +kernel
theorem dX9_faultOfWriting_72 : decode cX9_faultOfWriting 72 = .ok (.goto 4, 3) := by decide +kernel
theorem dX9_faultOfWriting_75 : decode cX9_faultOfWriting 75 = .ok (.iconst 0, 1) := by decide +kernel
theorem dX9_faultOfWriting_76 : decode cX9_faultOfWriting 76 = .ok (.iastore, 1) := by decide +kernel
theorem dX9_faultOfWriting_77 : decode cX9_faultOfWriting 77 = .ok (.iload_n 1, 1) := by decide +kernel
theorem dX9_faultOfWriting_78 : decode cX9_faultOfWriting 78 = .ok (.aload_n 0, 1) := by decide +kernel
theorem dX9_faultOfWriting_79 : decode cX9_faultOfWriting 79 = .ok (.getfield 43, 3) := by decide +kernel
theorem dX9_faultOfWriting_82 : decode cX9_faultOfWriting 82 = .ok (.aload_n 0, 1) := by decide +kernel
theorem dX9_faultOfWriting_83 : decode cX9_faultOfWriting 83 = .ok (.getfield 120, 3) := by decide +kernel
theorem dX9_faultOfWriting_86 : decode cX9_faultOfWriting 86 = .ok (.iaload, 1) := by decide +kernel
theorem dX9_faultOfWriting_87 : decode cX9_faultOfWriting 87 = .ok (.iadd, 1) := by decide +kernel
theorem dX9_faultOfWriting_88 : decode cX9_faultOfWriting 88 = .ok (.istore_n 1, 1) := by decide +kernel
theorem dX9_faultOfWriting_89 : decode cX9_faultOfWriting 89 = .ok (.aload_n 0, 1) := by decide +kernel
theorem dX9_faultOfWriting_90 : decode cX9_faultOfWriting 90 = .ok (.iload_n 1, 1) := by decide +kernel
theorem dX9_faultOfWriting_91 : decode cX9_faultOfWriting 91 = .ok (.bipush 45, 2) := by decide +kernel
theorem dX9_faultOfWriting_93 : decode cX9_faultOfWriting 93 = .ok (.invokevirtual 126, 3) := by decide +kernel
theorem dX9_faultOfWriting_96 : decode cX9_faultOfWriting 96 = .ok (.ifCond .eq 18, 3) := by decide +kernel
theorem dX9_faultOfWriting_99 : decode cX9_faultOfWriting 99 = .ok (.aload_n 0, 1) := by decide +kernel
theorem dX9_faultOfWriting_100 : decode cX9_faultOfWriting 100 = .ok (.getfield 120, 3) := by decide +kernel
theorem dX9_faultOfWriting_103 : decode cX9_faultOfWriting 103 = .ok (.iconst 1, 1) := by decide +kernel
theorem dX9_faultOfWriting_104 : decode cX9_faultOfWriting 104 = .ok (.iadd, 1) := by decide +kernel
theorem dX9_faultOfWriting_105 : decode cX9_faultOfWriting 105 = .ok (.bipush 15, 2) := by decide +kernel
theorem dX9_faultOfWriting_107 : decode cX9_faultOfWriting 107 = .ok (.if_icmp .ge 7, 3) := by decide +kernel
theorem dX9_faultOfWriting_110 : decode cX9_faultOfWriting 110 = .ok (.iconst 1, 1) := by decide +kernel
theorem dX9_faultOfWriting_111 : decode cX9_faultOfWriting 111 = .ok (.goto 4, 3) := by decide +kernel
theorem dX9_faultOfWriting_114 : decode cX9_faultOfWriting 114 = .ok (.iconst 0, 1) := by decide +kernel
theorem dX9_faultOfWriting_115 : decode cX9_faultOfWriting 115 = .ok (.istore_n 3, 1) := by decide +kernel
theorem dX9_faultOfWriting_116 : decode cX9_faultOfWriting 116 = .ok (.aload_n 0, 1) := by decide +kernel
theorem dX9_faultOfWriting_117 : decode cX9_faultOfWriting 117 = .ok (.getfield 46, 3) := by decide +kernel
theorem dX9_faultOfWriting_120 : decode cX9_faultOfWriting 120 = .ok (.aload_n 0, 1) := by decide +kernel
theorem dX9_faultOfWriting_121 : decode cX9_faultOfWriting 121 = .ok (.getfield 120, 3) := by decide +kernel
theorem dX9_faultOfWriting_124 : decode cX9_faultOfWriting 124 = .ok (.iload_n 3, 1) := by decide +kernel
theorem dX9_faultOfWriting_125 : decode cX9_faultOfWriting 125 = .ok (.ifCond .eq 7, 3) := by decide +kernel
theorem dX9_faultOfWriting_128 : decode cX9_faultOfWriting 128 = .ok (.iconst 1, 1) := by decide +kernel
theorem dX9_faultOfWriting_129 : decode cX9_faultOfWriting 129 = .ok (.goto 4, 3) := by decide +kernel
theorem dX9_faultOfWriting_132 : decode cX9_faultOfWriting 132 = .ok (.iconst 0, 1) := by decide +kernel
theorem dX9_faultOfWriting_133 : decode cX9_faultOfWriting 133 = .ok (.iastore, 1) := by decide +kernel
theorem dX9_faultOfWriting_134 : decode cX9_faultOfWriting 134 = .ok (.iload_n 1, 1) := by decide +kernel
theorem dX9_faultOfWriting_135 : decode cX9_faultOfWriting 135 = .ok (.aload_n 0, 1) := by decide +kernel
theorem dX9_faultOfWriting_136 : decode cX9_faultOfWriting 136 = .ok (.getfield 46, 3) := by decide +kernel
theorem dX9_faultOfWriting_139 : decode cX9_faultOfWriting 139 = .ok (.aload_n 0, 1) := by decide +kernel
theorem dX9_faultOfWriting_140 : decode cX9_faultOfWriting 140 = .ok (.getfield 120, 3) := by decide +kernel
theorem dX9_faultOfWriting_143 : decode cX9_faultOfWriting 143 = .ok (.iaload, 1) := by decide +kernel
theorem dX9_faultOfWriting_144 : decode cX9_faultOfWriting 144 = .ok (.iadd, 1) := by decide +kernel
theorem dX9_faultOfWriting_145 : decode cX9_faultOfWriting 145 = .ok (.istore_n 1, 1) := by decide +kernel
theorem dX9_faultOfWriting_146 : decode cX9_faultOfWriting 146 = .ok (.aload_n 0, 1) := by decide +kernel
theorem dX9_faultOfWriting_147 : decode cX9_faultOfWriting 147 = .ok (.dup, 1) := by decide +kernel
theorem dX9_faultOfWriting_148 : decode cX9_faultOfWriting 148 = .ok (.getfield 120, 3) := by decide +kernel
theorem dX9_faultOfWriting_151 : decode cX9_faultOfWriting 151 = .ok (.iconst 1, 1) := by decide +kernel
theorem dX9_faultOfWriting_152 : decode cX9_faultOfWriting 152 = .ok (.iadd, 1) := by decide +kernel
theorem dX9_faultOfWriting_153 : decode cX9_faultOfWriting 153 = .ok (.putfield 120, 3) := by decide +kernel
theorem dX9_faultOfWriting_156 : decode cX9_faultOfWriting 156 = .ok (.iload_n 3, 1) := by decide +kernel
theorem dX9_faultOfWriting_157 : decode cX9_faultOfWriting 157 = .ok (.ifCond .ne 11, 3) := by decide +kernel
theorem dX9_faultOfWriting_160 : decode cX9_faultOfWriting 160 = .ok (.aload_n 0, 1) := by decide +kernel
theorem dX9_faultOfWriting_161 : decode cX9_faultOfWriting 161 = .ok (.iload_n 1, 1) := by decide +kernel
theorem dX9_faultOfWriting_162 : decode cX9_faultOfWriting 162 = .ok (.invokevirtual 123, 3) := by decide +kernel
theorem dX9_faultOfWriting_165 : decode cX9_faultOfWriting 165 = .ok (.ifCond .eq 7, 3) := by decide +kernel
theorem dX9_faultOfWriting_168 : decode cX9_faultOfWriting 168 = .ok (.iconst 1, 1) := by decide +kernel
theorem dX9_faultOfWriting_169 : decode cX9_faultOfWriting 169 = .ok (.goto 4, 3) := by decide +kernel
theorem dX9_faultOfWriting_172 : decode cX9_faultOfWriting 172 = .ok (.iconst 0, 1) := by decide +kernel
theorem dX9_faultOfWriting_173 : decode cX9_faultOfWriting 173 = .ok (.istore_n 2, 1) := by decide +kernel
theorem dX9_faultOfWriting_174 : decode cX9_faultOfWriting 174 = .ok (.goto (-165), 3) := by decide +kernel
theorem dX9_faultOfWriting_177 : decode cX9_faultOfWriting 177 = .ok (.iload_n 1, 1) := by decide +kernel
theorem dX9_faultOfWriting_178 : decode cX9_faultOfWriting 178 = .ok (.aload_n 0, 1) := by decide +kernel
theorem dX9_faultOfWriting_179 : decode cX9_faultOfWriting 179 = .ok (.getfield 113, 3) := by decide +kernel
theorem dX9_faultOfWriting_182 : decode cX9_faultOfWriting 182 = .ok (.if_icmp .ne 8, 3) := by decide +kernel
theorem dX9_faultOfWriting_185 : decode cX9_faultOfWriting 185 = .ok (.bipush (-5), 2) := by decide +kernel
theorem dX9_faultOfWriting_187 : decode cX9_faultOfWriting 187 = .ok (.goto 4, 3) := by decide +kernel
theorem dX9_faultOfWriting_190 : decode cX9_faultOfWriting 190 = .ok (.iload_n 1, 1) := by decide +kernel
theorem dX9_faultOfWriting_191 : decode cX9_faultOfWriting 191 = .ok (.ireturn, 1) := by decide +kernel
set_option maxRecDepth 20000 in
theorem ggX9_faultOfWords_X9_isLetter : GoodIn wsX9_faultOfWords wsX9_isLetter := goodIn_r _ [7, 1, 2, 8, 9, 10, 11, 6, 12, 13, 14, 15, 16, 17, 18, 19, 20, 21, 22, 23, 24, 25, 26, 27, 28, 29, 30, 31] (by decide +kernel) (by decide +kernel)
set_option maxRecDepth 20000 in
theorem gX9_faultOfWords_X9_isLetter : GoodIn wsX9_faultOfWords (wsV RX9 123 RX9 yX9_isLetter wsX9_isLetter) := goodIn_app (goodIn_of _ (by decide +kernel)) ggX9_faultOfWords_X9_isLetter
theorem dX9_faultOfWords_0 : decode cX9_faultOfWords 0 = .ok (.iconst 0, 1) := by decide +kernel
theorem dX9_faultOfWords_1 : decode cX9_faultOfWords 1 = .ok (.istore_n 1, 1) := by decide +kernel
theorem dX9_faultOfWords_2 : decode cX9_faultOfWords 2 = .ok (.iconst 0, 1) := by decide +kernel
theorem dX9_faultOfWords_3 : decode cX9_faultOfWords 3 = .ok (.istore_n 2, 1) := by decide +kernel
theorem dX9_faultOfWords_4 : decode cX9_faultOfWords 4 = .ok (.iload_n 2, 1) := by decide +kernel
theorem dX9_faultOfWords_5 : decode cX9_faultOfWords 5 = .ok (.aload_n 0, 1) := by decide +kernel
theorem dX9_faultOfWords_6 : decode cX9_faultOfWords 6 = .ok (.getfield 113, 3) := by decide +kernel
theorem dX9_faultOfWords_9 : decode cX9_faultOfWords 9 = .ok (.if_icmp .ge 62, 3) := by decide +kernel
theorem dX9_faultOfWords_12 : decode cX9_faultOfWords 12 = .ok (.aload_n 0, 1) := by decide +kernel
theorem dX9_faultOfWords_13 : decode cX9_faultOfWords 13 = .ok (.iload_n 2, 1) := by decide +kernel
theorem dX9_faultOfWords_14 : decode cX9_faultOfWords 14 = .ok (.invokevirtual 123, 3) := by decide +kernel
theorem dX9_faultOfWords_17 : decode cX9_faultOfWords 17 = .ok (.ifCond .eq 13, 3) := by decide +kernel
theorem dX9_faultOfWords_20 : decode cX9_faultOfWords 20 = .ok (.iload_n 1, 1) := by decide +kernel
theorem dX9_faultOfWords_21 : decode cX9_faultOfWords 21 = .ok (.bipush 15, 2) := by decide +kernel
theorem dX9_faultOfWords_23 : decode cX9_faultOfWords 23 = .ok (.if_icmp .ge 7, 3) := by decide +kernel
theorem dX9_faultOfWords_26 : decode cX9_faultOfWords 26 = .ok (.iconst 1, 1) := by decide +kernel
theorem dX9_faultOfWords_27 : decode cX9_faultOfWords 27 = .ok (.goto 4, 3) := by decide +kernel
theorem dX9_faultOfWords_30 : decode cX9_faultOfWords 30 = .ok (.iconst 0, 1) := by decide +kernel
theorem dX9_faultOfWords_31 : decode cX9_faultOfWords 31 = .ok (.istore_n 3, 1) := by decide +kernel
theorem dX9_faultOfWords_32 : decode cX9_faultOfWords 32 = .ok (.iload_n 3, 1) := by decide +kernel
theorem dX9_faultOfWords_33 : decode cX9_faultOfWords 33 = .ok (.ifCond .ne 20, 3) := by decide +kernel
theorem dX9_faultOfWords_36 : decode cX9_faultOfWords 36 = .ok (.aload_n 0, 1) := by decide +kernel
theorem dX9_faultOfWords_37 : decode cX9_faultOfWords 37 = .ok (.getfield 37, 3) := by decide +kernel
theorem dX9_faultOfWords_40 : decode cX9_faultOfWords 40 = .ok (.iload_n 2, 1) := by decide +kernel
theorem dX9_faultOfWords_41 : decode cX9_faultOfWords 41 = .ok (.iaload, 1) := by decide +kernel
theorem dX9_faultOfWords_42 : decode cX9_faultOfWords 42 = .ok (.bipush 44, 2) := by decide +kernel
theorem dX9_faultOfWords_44 : decode cX9_faultOfWords 44 = .ok (.if_icmp .ne 7, 3) := by decide +kernel
theorem dX9_faultOfWords_47 : decode cX9_faultOfWords 47 = .ok (.iload_n 1, 1) := by decide +kernel
theorem dX9_faultOfWords_48 : decode cX9_faultOfWords 48 = .ok (.ifCond .ne 5, 3) := by decide +kernel
theorem dX9_faultOfWords_51 : decode cX9_faultOfWords 51 = .ok (.iload_n 2, 1) := by decide +kernel
theorem dX9_faultOfWords_52 : decode cX9_faultOfWords 52 = .ok (.ireturn, 1) := by decide +kernel
theorem dX9_faultOfWords_53 : decode cX9_faultOfWords 53 = .ok (.iload_n 3, 1) := by decide +kernel
theorem dX9_faultOfWords_54 : decode cX9_faultOfWords 54 = .ok (.ifCond .eq 9, 3) := by decide +kernel
theorem dX9_faultOfWords_57 : decode cX9_faultOfWords 57 = .ok (.iload_n 1, 1) := by decide +kernel
theorem dX9_faultOfWords_58 : decode cX9_faultOfWords 58 = .ok (.iconst 1, 1) := by decide +kernel
theorem dX9_faultOfWords_59 : decode cX9_faultOfWords 59 = .ok (.iadd, 1) := by decide +kernel
theorem dX9_faultOfWords_60 : decode cX9_faultOfWords 60 = .ok (.goto 4, 3) := by decide +kernel
theorem dX9_faultOfWords_63 : decode cX9_faultOfWords 63 = .ok (.iconst 0, 1) := by decide +kernel
theorem dX9_faultOfWords_64 : decode cX9_faultOfWords 64 = .ok (.istore_n 1, 1) := by decide +kernel
theorem dX9_faultOfWords_65 : decode cX9_faultOfWords 65 = .ok (.iinc 2 1, 3) := by decide +kernel
theorem dX9_faultOfWords_68 : decode cX9_faultOfWords 68 = .ok (.goto (-64), 3) := by decide +kernel
theorem dX9_faultOfWords_71 : decode cX9_faultOfWords 71 = .ok (.iload_n 1, 1) := by decide +kernel
theorem dX9_faultOfWords_72 : decode cX9_faultOfWords 72 = .ok (.ifCond .ne 10, 3) := by decide +kernel
theorem dX9_faultOfWords_75 : decode cX9_faultOfWords 75 = .ok (.aload_n 0, 1) := by decide +kernel
theorem dX9_faultOfWords_76 : decode cX9_faultOfWords 76 = .ok (.getfield 113, 3) := by decide +kernel
theorem dX9_faultOfWords_79 : decode cX9_faultOfWords 79 = .ok (.goto 5, 3) := by decide +kernel
theorem dX9_faultOfWords_82 : decode cX9_faultOfWords 82 = .ok (.bipush (-5), 2) := by decide +kernel
theorem dX9_faultOfWords_84 : decode cX9_faultOfWords 84 = .ok (.ireturn, 1) := by decide +kernel
set_option maxRecDepth 20000 in
theorem ggX9_write_X9_faultOfWriting : GoodIn wsX9_write wsX9_faultOfWriting := goodIn_r _ [10, 1, 2, 11, 3, 4, 12, 13, 14, 15, 9, 16, 17, 18, 19, 20, 21, 22, 23, 24, 25, 47, 48, 49, 50, 51, 52, 53, 54, 55, 56, 57, 58, 59, 60, 61, 62, 63, 64, 65] (by decide +kernel) (by decide +kernel)
set_option maxRecDepth 20000 in
theorem gX9_write_X9_faultOfWriting : GoodIn wsX9_write (wsV RX9 129 RX9 yX9_faultOfWriting wsX9_faultOfWriting) := goodIn_app (goodIn_of _ (by decide +kernel)) ggX9_write_X9_faultOfWriting
set_option maxRecDepth 20000 in
theorem ggX9_write_X9_remember : GoodIn wsX9_write wsX9_remember := goodIn_r _ [29, 5, 30, 31, 32, 9, 33, 47, 48, 49, 50, 51, 52, 53, 54, 55, 56, 57, 58, 59, 60, 61, 62, 63, 64, 65] (by decide +kernel) (by decide +kernel)
set_option maxRecDepth 20000 in
theorem gX9_write_X9_remember : GoodIn wsX9_write (wsV RX9 132 RX9 yX9_remember wsX9_remember) := goodIn_app (goodIn_of _ (by decide +kernel)) ggX9_write_X9_remember
set_option maxRecDepth 20000 in
theorem ggX9_write_X9_tries : GoodIn wsX9_write wsX9_tries := goodIn_r _ [37, 5, 47, 48, 49, 50, 51, 52, 53, 54, 55, 56, 57, 58, 59, 60, 61, 62, 63, 64, 65] (by decide +kernel) (by decide +kernel)
set_option maxRecDepth 20000 in
theorem gX9_write_X9_tries : GoodIn wsX9_write (wsV RX9 109 RX9 yX9_tries wsX9_tries) := goodIn_app (goodIn_of _ (by decide +kernel)) ggX9_write_X9_tries
set_option maxRecDepth 20000 in
theorem ggX9_write_X9_joinOf : GoodIn wsX9_write wsX9_joinOf := goodIn_r _ [40] (by decide +kernel) (by decide +kernel)
set_option maxRecDepth 20000 in
theorem gX9_write_X9_joinOf : GoodIn wsX9_write (va_wsS RX9 76 yX9_joinOf wsX9_joinOf) := goodIn_app (goodIn_of _ (by decide +kernel)) ggX9_write_X9_joinOf
set_option maxRecDepth 20000 in
theorem ggX9_write_X9_acted : GoodIn wsX9_write wsX9_acted := goodIn_r _ [44, 45, 46, 30, 47, 48, 49, 50, 51, 52, 53, 54, 55, 56, 57, 58, 59, 60, 61, 62, 63, 64, 65] (by decide +kernel) (by decide +kernel)
set_option maxRecDepth 20000 in
theorem gX9_write_X9_acted : GoodIn wsX9_write (wsV RX9 135 RX9 yX9_acted wsX9_acted) := goodIn_app (goodIn_of _ (by decide +kernel)) ggX9_write_X9_acted
theorem dX9_write_0 : decode cX9_write 0 = .ok (.aload_n 0, 1) := by decide +kernel
theorem dX9_write_1 : decode cX9_write 1 = .ok (.invokevirtual 129, 3) := by decide +kernel
theorem dX9_write_4 : decode cX9_write 4 = .ok (.istore_n 1, 1) := by decide +kernel
theorem dX9_write_5 : decode cX9_write 5 = .ok (.iload_n 1, 1) := by decide +kernel
theorem dX9_write_6 : decode cX9_write 6 = .ok (.bipush (-5), 2) := by decide +kernel
theorem dX9_write_8 : decode cX9_write 8 = .ok (.if_icmp .eq 8, 3) := by decide +kernel
theorem dX9_write_11 : decode cX9_write 11 = .ok (.bipush (-100), 2) := by decide +kernel
theorem dX9_write_13 : decode cX9_write 13 = .ok (.iload_n 1, 1) := by decide +kernel
theorem dX9_write_14 : decode cX9_write 14 = .ok (.isub, 1) := by decide +kernel
theorem dX9_write_15 : decode cX9_write 15 = .ok (.ireturn, 1) := by decide +kernel
theorem dX9_write_16 : decode cX9_write 16 = .ok (.aload_n 0, 1) := by decide +kernel
theorem dX9_write_17 : decode cX9_write 17 = .ok (.invokevirtual 132, 3) := by decide +kernel
theorem dX9_write_20 : decode cX9_write 20 = .ok (.iconst 0, 1) := by decide +kernel
theorem dX9_write_21 : decode cX9_write 21 = .ok (.istore_n 2, 1) := by decide +kernel
theorem dX9_write_22 : decode cX9_write 22 = .ok (.iconst 0, 1) := by decide +kernel
theorem dX9_write_23 : decode cX9_write 23 = .ok (.istore_n 3, 1) := by decide +kernel
theorem dX9_write_24 : decode cX9_write 24 = .ok (.iload_n 3, 1) := by decide +kernel
theorem dX9_write_25 : decode cX9_write 25 = .ok (.aload_n 0, 1) := by decide +kernel
theorem dX9_write_26 : decode cX9_write 26 = .ok (.getfield 120, 3) := by decide +kernel
theorem dX9_write_29 : decode cX9_write 29 = .ok (.if_icmp .ge 80, 3) := by decide +kernel
theorem dX9_write_32 : decode cX9_write 32 = .ok (.aload_n 0, 1) := by decide +kernel
theorem dX9_write_33 : decode cX9_write 33 = .ok (.aload_n 0, 1) := by decide +kernel
theorem dX9_write_34 : decode cX9_write 34 = .ok (.getfield 40, 3) := by decide +kernel
theorem dX9_write_37 : decode cX9_write 37 = .ok (.iload_n 3, 1) := by decide +kernel
theorem dX9_write_38 : decode cX9_write 38 = .ok (.iaload, 1) := by decide +kernel
theorem dX9_write_39 : decode cX9_write 39 = .ok (.aload_n 0, 1) := by decide +kernel
theorem dX9_write_40 : decode cX9_write 40 = .ok (.getfield 43, 3) := by decide +kernel
theorem dX9_write_43 : decode cX9_write 43 = .ok (.iload_n 3, 1) := by decide +kernel
theorem dX9_write_44 : decode cX9_write 44 = .ok (.iaload, 1) := by decide +kernel
theorem dX9_write_45 : decode cX9_write 45 = .ok (.invokevirtual 109, 3) := by decide +kernel
theorem dX9_write_48 : decode cX9_write 48 = .ok (.iload_n 2, 1) := by decide +kernel
theorem dX9_write_49 : decode cX9_write 49 = .ok (.aload_n 0, 1) := by decide +kernel
theorem dX9_write_50 : decode cX9_write 50 = .ok (.getfield 43, 3) := by decide +kernel
theorem dX9_write_53 : decode cX9_write 53 = .ok (.iload_n 3, 1) := by decide +kernel
theorem dX9_write_54 : decode cX9_write 54 = .ok (.iaload, 1) := by decide +kernel
theorem dX9_write_55 : decode cX9_write 55 = .ok (.iadd, 1) := by decide +kernel
theorem dX9_write_56 : decode cX9_write 56 = .ok (.istore_n 2, 1) := by decide +kernel
theorem dX9_write_57 : decode cX9_write 57 = .ok (.iload_n 3, 1) := by decide +kernel
theorem dX9_write_58 : decode cX9_write 58 = .ok (.iconst 1, 1) := by decide +kernel
theorem dX9_write_59 : decode cX9_write 59 = .ok (.iadd, 1) := by decide +kernel
theorem dX9_write_60 : decode cX9_write 60 = .ok (.aload_n 0, 1) := by decide +kernel
theorem dX9_write_61 : decode cX9_write 61 = .ok (.getfield 120, 3) := by decide +kernel
theorem dX9_write_64 : decode cX9_write 64 = .ok (.if_icmp .ge 39, 3) := by decide +kernel
theorem dX9_write_67 : decode cX9_write 67 = .ok (.aload_n 0, 1) := by decide +kernel
theorem dX9_write_68 : decode cX9_write 68 = .ok (.aload_n 0, 1) := by decide +kernel
theorem dX9_write_69 : decode cX9_write 69 = .ok (.getfield 40, 3) := by decide +kernel
theorem dX9_write_72 : decode cX9_write 72 = .ok (.iload_n 3, 1) := by decide +kernel
theorem dX9_write_73 : decode cX9_write 73 = .ok (.iaload, 1) := by decide +kernel
theorem dX9_write_74 : decode cX9_write 74 = .ok (.aload_n 0, 1) := by decide +kernel
theorem dX9_write_75 : decode cX9_write 75 = .ok (.getfield 40, 3) := by decide +kernel
theorem dX9_write_78 : decode cX9_write 78 = .ok (.iload_n 3, 1) := by decide +kernel
theorem dX9_write_79 : decode cX9_write 79 = .ok (.iconst 1, 1) := by decide +kernel
theorem dX9_write_80 : decode cX9_write 80 = .ok (.iadd, 1) := by decide +kernel
theorem dX9_write_81 : decode cX9_write 81 = .ok (.iaload, 1) := by decide +kernel
theorem dX9_write_82 : decode cX9_write 82 = .ok (.invokestatic 76, 3) := by decide +kernel
theorem dX9_write_85 : decode cX9_write 85 = .ok (.aload_n 0, 1) := by decide +kernel
theorem dX9_write_86 : decode cX9_write 86 = .ok (.getfield 46, 3) := by decide +kernel
theorem dX9_write_89 : decode cX9_write 89 = .ok (.iload_n 3, 1) := by decide +kernel
theorem dX9_write_90 : decode cX9_write 90 = .ok (.iaload, 1) := by decide +kernel
theorem dX9_write_91 : decode cX9_write 91 = .ok (.invokevirtual 109, 3) := by decide +kernel
theorem dX9_write_94 : decode cX9_write 94 = .ok (.iload_n 2, 1) := by decide +kernel
theorem dX9_write_95 : decode cX9_write 95 = .ok (.aload_n 0, 1) := by decide +kernel
theorem dX9_write_96 : decode cX9_write 96 = .ok (.getfield 46, 3) := by decide +kernel
theorem dX9_write_99 : decode cX9_write 99 = .ok (.iload_n 3, 1) := by decide +kernel
theorem dX9_write_100 : decode cX9_write 100 = .ok (.iaload, 1) := by decide +kernel
theorem dX9_write_101 : decode cX9_write 101 = .ok (.iadd, 1) := by decide +kernel
theorem dX9_write_102 : decode cX9_write 102 = .ok (.istore_n 2, 1) := by decide +kernel
theorem dX9_write_103 : decode cX9_write 103 = .ok (.iinc 3 1, 3) := by decide +kernel
theorem dX9_write_106 : decode cX9_write 106 = .ok (.goto (-82), 3) := by decide +kernel
theorem dX9_write_109 : decode cX9_write 109 = .ok (.aload_n 0, 1) := by decide +kernel
theorem dX9_write_110 : decode cX9_write 110 = .ok (.getfield 7, 3) := by decide +kernel
theorem dX9_write_113 : decode cX9_write 113 = .ok (.iconst 2, 1) := by decide +kernel
theorem dX9_write_114 : decode cX9_write 114 = .ok (.dup2, 1) := by decide +kernel
theorem dX9_write_115 : decode cX9_write 115 = .ok (.iaload, 1) := by decide +kernel
theorem dX9_write_116 : decode cX9_write 116 = .ok (.iconst 1, 1) := by decide +kernel
theorem dX9_write_117 : decode cX9_write 117 = .ok (.iadd, 1) := by decide +kernel
theorem dX9_write_118 : decode cX9_write 118 = .ok (.iastore, 1) := by decide +kernel
theorem dX9_write_119 : decode cX9_write 119 = .ok (.aload_n 0, 1) := by decide +kernel
theorem dX9_write_120 : decode cX9_write 120 = .ok (.getfield 7, 3) := by decide +kernel
theorem dX9_write_123 : decode cX9_write 123 = .ok (.iconst 3, 1) := by decide +kernel
theorem dX9_write_124 : decode cX9_write 124 = .ok (.dup2, 1) := by decide +kernel
theorem dX9_write_125 : decode cX9_write 125 = .ok (.iaload, 1) := by decide +kernel
theorem dX9_write_126 : decode cX9_write 126 = .ok (.iload_n 2, 1) := by decide +kernel
theorem dX9_write_127 : decode cX9_write 127 = .ok (.iadd, 1) := by decide +kernel
theorem dX9_write_128 : decode cX9_write 128 = .ok (.iastore, 1) := by decide +kernel
theorem dX9_write_129 : decode cX9_write 129 = .ok (.aload_n 0, 1) := by decide +kernel
theorem dX9_write_130 : decode cX9_write 130 = .ok (.iload_n 2, 1) := by decide +kernel
theorem dX9_write_131 : decode cX9_write 131 = .ok (.invokevirtual 135, 3) := by decide +kernel
theorem dX9_write_134 : decode cX9_write 134 = .ok (.ireturn, 1) := by decide +kernel
set_option maxRecDepth 20000 in
theorem ggX9_pass_X9_in : GoodIn wsX9_pass wsX9_in := goodIn_r _ [7] (by decide +kernel) (by decide +kernel)
set_option maxRecDepth 20000 in
theorem gX9_pass_X9_in : GoodIn wsX9_pass (va_wsS RX9 57 yX9_in wsX9_in) := goodIn_app (goodIn_of _ (by decide +kernel)) ggX9_pass_X9_in
set_option maxRecDepth 20000 in
theorem ggX9_pass_X9_remember : GoodIn wsX9_pass wsX9_remember := goodIn_r _ [11, 2, 3, 12, 13, 6, 14, 21, 22, 23, 24, 25, 26, 27, 28, 29, 30, 31, 32, 33, 34, 35, 36, 37, 38, 39] (by decide +kernel) (by decide +kernel)
set_option maxRecDepth 20000 in
theorem gX9_pass_X9_remember : GoodIn wsX9_pass (wsV RX9 132 RX9 yX9_remember wsX9_remember) := goodIn_app (goodIn_of _ (by decide +kernel)) ggX9_pass_X9_remember
set_option maxRecDepth 20000 in
theorem ggX9_pass_X9_acted : GoodIn wsX9_pass wsX9_acted := goodIn_r _ [18, 19, 20, 3, 21, 22, 23, 24, 25, 26, 27, 28, 29, 30, 31, 32, 33, 34, 35, 36, 37, 38, 39] (by decide +kernel) (by decide +kernel)
set_option maxRecDepth 20000 in
theorem gX9_pass_X9_acted : GoodIn wsX9_pass (wsV RX9 135 RX9 yX9_acted wsX9_acted) := goodIn_app (goodIn_of _ (by decide +kernel)) ggX9_pass_X9_acted
theorem dX9_pass_0 : decode cX9_pass 0 = .ok (.iload_n 1, 1) := by decide +kernel
theorem dX9_pass_1 : decode cX9_pass 1 = .ok (.i2l, 1) := by decide +kernel
theorem dX9_pass_2 : decode cX9_pass 2 = .ok (.lconst 1, 1) := by decide +kernel
theorem dX9_pass_3 : decode cX9_pass 3 = .ok (.ldc2_w 138, 3) := by decide +kernel
theorem dX9_pass_6 : decode cX9_pass 6 = .ok (.invokestatic 57, 3) := by decide +kernel
theorem dX9_pass_9 : decode cX9_pass 9 = .ok (.ifCond .ne 6, 3) := by decide +kernel
theorem dX9_pass_12 : decode cX9_pass 12 = .ok (.bipush (-2), 2) := by decide +kernel
theorem dX9_pass_14 : decode cX9_pass 14 = .ok (.ireturn, 1) := by decide +kernel
theorem dX9_pass_15 : decode cX9_pass 15 = .ok (.aload_n 0, 1) := by decide +kernel
theorem dX9_pass_16 : decode cX9_pass 16 = .ok (.getfield 7, 3) := by decide +kernel
theorem dX9_pass_19 : decode cX9_pass 19 = .ok (.iconst 1, 1) := by decide +kernel
theorem dX9_pass_20 : decode cX9_pass 20 = .ok (.iaload, 1) := by decide +kernel
theorem dX9_pass_21 : decode cX9_pass 21 = .ok (.iload_n 1, 1) := by decide +kernel
theorem dX9_pass_22 : decode cX9_pass 22 = .ok (.iadd, 1) := by decide +kernel
theorem dX9_pass_23 : decode cX9_pass 23 = .ok (.sipush 999, 3) := by decide +kernel
theorem dX9_pass_26 : decode cX9_pass 26 = .ok (.if_icmp .le 6, 3) := by decide +kernel
theorem dX9_pass_29 : decode cX9_pass 29 = .ok (.bipush (-3), 2) := by decide +kernel
theorem dX9_pass_31 : decode cX9_pass 31 = .ok (.ireturn, 1) := by decide +kernel
theorem dX9_pass_32 : decode cX9_pass 32 = .ok (.aload_n 0, 1) := by decide +kernel
theorem dX9_pass_33 : decode cX9_pass 33 = .ok (.invokevirtual 132, 3) := by decide +kernel
theorem dX9_pass_36 : decode cX9_pass 36 = .ok (.aload_n 0, 1) := by decide +kernel
theorem dX9_pass_37 : decode cX9_pass 37 = .ok (.getfield 7, 3) := by decide +kernel
theorem dX9_pass_40 : decode cX9_pass 40 = .ok (.iconst 1, 1) := by decide +kernel
theorem dX9_pass_41 : decode cX9_pass 41 = .ok (.dup2, 1) := by decide +kernel
theorem dX9_pass_42 : decode cX9_pass 42 = .ok (.iaload, 1) := by decide +kernel
theorem dX9_pass_43 : decode cX9_pass 43 = .ok (.iload_n 1, 1) := by decide +kernel
theorem dX9_pass_44 : decode cX9_pass 44 = .ok (.iadd, 1) := by decide +kernel
theorem dX9_pass_45 : decode cX9_pass 45 = .ok (.iastore, 1) := by decide +kernel
theorem dX9_pass_46 : decode cX9_pass 46 = .ok (.iconst 0, 1) := by decide +kernel
theorem dX9_pass_47 : decode cX9_pass 47 = .ok (.istore_n 2, 1) := by decide +kernel
theorem dX9_pass_48 : decode cX9_pass 48 = .ok (.iconst 0, 1) := by decide +kernel
theorem dX9_pass_49 : decode cX9_pass 49 = .ok (.istore_n 3, 1) := by decide +kernel
theorem dX9_pass_50 : decode cX9_pass 50 = .ok (.iload_n 3, 1) := by decide +kernel
theorem dX9_pass_51 : decode cX9_pass 51 = .ok (.sipush 702, 3) := by decide +kernel
theorem dX9_pass_54 : decode cX9_pass 54 = .ok (.if_icmp .ge 68, 3) := by decide +kernel
theorem dX9_pass_57 : decode cX9_pass 57 = .ok (.aload_n 0, 1) := by decide +kernel
theorem dX9_pass_58 : decode cX9_pass 58 = .ok (.getfield 7, 3) := by decide +kernel
theorem dX9_pass_61 : decode cX9_pass 61 = .ok (.bipush 6, 2) := by decide +kernel
theorem dX9_pass_63 : decode cX9_pass 63 = .ok (.iload_n 3, 1) := by decide +kernel
theorem dX9_pass_64 : decode cX9_pass 64 = .ok (.iadd, 1) := by decide +kernel
theorem dX9_pass_65 : decode cX9_pass 65 = .ok (.dup2, 1) := by decide +kernel
theorem dX9_pass_66 : decode cX9_pass 66 = .ok (.iaload, 1) := by decide +kernel
theorem dX9_pass_67 : decode cX9_pass 67 = .ok (.iload_n 1, 1) := by decide +kernel
theorem dX9_pass_68 : decode cX9_pass 68 = .ok (.ishr, 1) := by decide +kernel
theorem dX9_pass_69 : decode cX9_pass 69 = .ok (.iastore, 1) := by decide +kernel
theorem dX9_pass_70 : decode cX9_pass 70 = .ok (.aload_n 0, 1) := by decide +kernel
theorem dX9_pass_71 : decode cX9_pass 71 = .ok (.getfield 7, 3) := by decide +kernel
theorem dX9_pass_74 : decode cX9_pass 74 = .ok (.sipush 708, 3) := by decide +kernel
theorem dX9_pass_77 : decode cX9_pass 77 = .ok (.iload_n 3, 1) := by decide +kernel
theorem dX9_pass_78 : decode cX9_pass 78 = .ok (.iadd, 1) := by decide +kernel
theorem dX9_pass_79 : decode cX9_pass 79 = .ok (.dup2, 1) := by decide +kernel
theorem dX9_pass_80 : decode cX9_pass 80 = .ok (.iaload, 1) := by decide +kernel
theorem dX9_pass_81 : decode cX9_pass 81 = .ok (.iload_n 1, 1) := by decide +kernel
theorem dX9_pass_82 : decode cX9_pass 82 = .ok (.ishr, 1) := by decide +kernel
theorem dX9_pass_83 : decode cX9_pass 83 = .ok (.iastore, 1) := by decide +kernel
theorem dX9_pass_84 : decode cX9_pass 84 = .ok (.iload_n 2, 1) := by decide +kernel
theorem dX9_pass_85 : decode cX9_pass 85 = .ok (.aload_n 0, 1) := by decide +kernel
theorem dX9_pass_86 : decode cX9_pass 86 = .ok (.getfield 7, 3) := by decide +kernel
theorem dX9_pass_89 : decode cX9_pass 89 = .ok (.bipush 6, 2) := by decide +kernel
theorem dX9_pass_91 : decode cX9_pass 91 = .ok (.iload_n 3, 1) := by decide +kernel
theorem dX9_pass_92 : decode cX9_pass 92 = .ok (.iadd, 1) := by decide +kernel
theorem dX9_pass_93 : decode cX9_pass 93 = .ok (.iaload, 1) := by decide +kernel
theorem dX9_pass_94 : decode cX9_pass 94 = .ok (.ifCond .ne 19, 3) := by decide +kernel
theorem dX9_pass_97 : decode cX9_pass 97 = .ok (.aload_n 0, 1) := by decide +kernel
theorem dX9_pass_98 : decode cX9_pass 98 = .ok (.getfield 13, 3) := by decide +kernel
theorem dX9_pass_101 : decode cX9_pass 101 = .ok (.bipush 6, 2) := by decide +kernel
theorem dX9_pass_103 : decode cX9_pass 103 = .ok (.iload_n 3, 1) := by decide +kernel
theorem dX9_pass_104 : decode cX9_pass 104 = .ok (.iadd, 1) := by decide +kernel
theorem dX9_pass_105 : decode cX9_pass 105 = .ok (.iaload, 1) := by decide +kernel
theorem dX9_pass_106 : decode cX9_pass 106 = .ok (.ifCond .le 7, 3) := by decide +kernel
theorem dX9_pass_109 : decode cX9_pass 109 = .ok (.iconst 1, 1) := by decide +kernel
theorem dX9_pass_110 : decode cX9_pass 110 = .ok (.goto 4, 3) := by decide +kernel
theorem dX9_pass_113 : decode cX9_pass 113 = .ok (.iconst 0, 1) := by decide +kernel
theorem dX9_pass_114 : decode cX9_pass 114 = .ok (.iadd, 1) := by decide +kernel
theorem dX9_pass_115 : decode cX9_pass 115 = .ok (.istore_n 2, 1) := by decide +kernel
theorem dX9_pass_116 : decode cX9_pass 116 = .ok (.iinc 3 1, 3) := by decide +kernel
theorem dX9_pass_119 : decode cX9_pass 119 = .ok (.goto (-69), 3) := by decide +kernel
theorem dX9_pass_122 : decode cX9_pass 122 = .ok (.aload_n 0, 1) := by decide +kernel
theorem dX9_pass_123 : decode cX9_pass 123 = .ok (.iload_n 2, 1) := by decide +kernel
theorem dX9_pass_124 : decode cX9_pass 124 = .ok (.invokevirtual 135, 3) := by decide +kernel
theorem dX9_pass_127 : decode cX9_pass 127 = .ok (.ireturn, 1) := by decide +kernel
set_option maxRecDepth 20000 in
theorem ggX9_setUntried_X9_in : GoodIn wsX9_setUntried wsX9_in := goodIn_r _ [6] (by decide +kernel) (by decide +kernel)
set_option maxRecDepth 20000 in
theorem gX9_setUntried_X9_in : GoodIn wsX9_setUntried (va_wsS RX9 57 yX9_in wsX9_in) := goodIn_app (goodIn_of _ (by decide +kernel)) ggX9_setUntried_X9_in
set_option maxRecDepth 20000 in
theorem ggX9_setUntried_X9_remember : GoodIn wsX9_setUntried wsX9_remember := goodIn_r _ [10, 2, 11, 12, 13, 5, 14, 21, 22, 23, 24, 25, 26, 27, 28, 29, 30, 31, 32, 33, 34, 35, 36, 37, 38, 39] (by decide +kernel) (by decide +kernel)
set_option maxRecDepth 20000 in
theorem gX9_setUntried_X9_remember : GoodIn wsX9_setUntried (wsV RX9 132 RX9 yX9_remember wsX9_remember) := goodIn_app (goodIn_of _ (by decide +kernel)) ggX9_setUntried_X9_remember
set_option maxRecDepth 20000 in
theorem ggX9_setUntried_X9_acted : GoodIn wsX9_setUntried wsX9_acted := goodIn_r _ [18, 19, 20, 11, 21, 22, 23, 24, 25, 26, 27, 28, 29, 30, 31, 32, 33, 34, 35, 36, 37, 38, 39] (by decide +kernel) (by decide +kernel)
set_option maxRecDepth 20000 in
theorem gX9_setUntried_X9_acted : GoodIn wsX9_setUntried (wsV RX9 135 RX9 yX9_acted wsX9_acted) := goodIn_app (goodIn_of _ (by decide +kernel)) ggX9_setUntried_X9_acted
theorem dX9_setUntried_0 : decode cX9_setUntried 0 = .ok (.iload_n 1, 1) := by decide +kernel
theorem dX9_setUntried_1 : decode cX9_setUntried 1 = .ok (.i2l, 1) := by decide +kernel
theorem dX9_setUntried_2 : decode cX9_setUntried 2 = .ok (.lconst 0, 1) := by decide +kernel
theorem dX9_setUntried_3 : decode cX9_setUntried 3 = .ok (.ldc2_w 140, 3) := by decide +kernel
theorem dX9_setUntried_6 : decode cX9_setUntried 6 = .ok (.invokestatic 57, 3) := by decide +kernel
theorem dX9_setUntried_9 : decode cX9_setUntried 9 = .ok (.ifCond .ne 6, 3) := by decide +kernel
theorem dX9_setUntried_12 : decode cX9_setUntried 12 = .ok (.bipush (-2), 2) := by decide +kernel
theorem dX9_setUntried_14 : decode cX9_setUntried 14 = .ok (.ireturn, 1) := by decide +kernel
theorem dX9_setUntried_15 : decode cX9_setUntried 15 = .ok (.aload_n 0, 1) := by decide +kernel
theorem dX9_setUntried_16 : decode cX9_setUntried 16 = .ok (.getfield 7, 3) := by decide +kernel
theorem dX9_setUntried_19 : decode cX9_setUntried 19 = .ok (.iconst 0, 1) := by decide +kernel
theorem dX9_setUntried_20 : decode cX9_setUntried 20 = .ok (.iaload, 1) := by decide +kernel
theorem dX9_setUntried_21 : decode cX9_setUntried 21 = .ok (.istore_n 2, 1) := by decide +kernel
theorem dX9_setUntried_22 : decode cX9_setUntried 22 = .ok (.iload_n 2, 1) := by decide +kernel
theorem dX9_setUntried_23 : decode cX9_setUntried 23 = .ok (.iload_n 1, 1) := by decide +kernel
theorem dX9_setUntried_24 : decode cX9_setUntried 24 = .ok (.if_icmp .ne 6, 3) := by decide +kernel
theorem dX9_setUntried_27 : decode cX9_setUntried 27 = .ok (.bipush (-5), 2) := by decide +kernel
theorem dX9_setUntried_29 : decode cX9_setUntried 29 = .ok (.ireturn, 1) := by decide +kernel
theorem dX9_setUntried_30 : decode cX9_setUntried 30 = .ok (.aload_n 0, 1) := by decide +kernel
theorem dX9_setUntried_31 : decode cX9_setUntried 31 = .ok (.invokevirtual 132, 3) := by decide +kernel
theorem dX9_setUntried_34 : decode cX9_setUntried 34 = .ok (.aload_n 0, 1) := by decide +kernel
theorem dX9_setUntried_35 : decode cX9_setUntried 35 = .ok (.getfield 7, 3) := by decide +kernel
theorem dX9_setUntried_38 : decode cX9_setUntried 38 = .ok (.iconst 0, 1) := by decide +kernel
theorem dX9_setUntried_39 : decode cX9_setUntried 39 = .ok (.iload_n 1, 1) := by decide +kernel
theorem dX9_setUntried_40 : decode cX9_setUntried 40 = .ok (.iastore, 1) := by decide +kernel
theorem dX9_setUntried_41 : decode cX9_setUntried 41 = .ok (.aload_n 0, 1) := by decide +kernel
theorem dX9_setUntried_42 : decode cX9_setUntried 42 = .ok (.iload_n 2, 1) := by decide +kernel
theorem dX9_setUntried_43 : decode cX9_setUntried 43 = .ok (.invokevirtual 135, 3) := by decide +kernel
theorem dX9_setUntried_46 : decode cX9_setUntried 46 = .ok (.ireturn, 1) := by decide +kernel
set_option maxRecDepth 20000 in
theorem ggX9_isOnList_X9_sizeOf : GoodIn wsX9_isOnList wsX9_sizeOf := goodIn_r _ [7, 1, 12, 13, 14, 15, 16, 17, 18, 19, 20, 21, 22, 23, 24, 25, 26, 27, 28, 29, 30] (by decide +kernel) (by decide +kernel)
set_option maxRecDepth 20000 in
theorem gX9_isOnList_X9_sizeOf : GoodIn wsX9_isOnList (wsV RX9 64 RX9 yX9_sizeOf wsX9_sizeOf) := goodIn_app (goodIn_of _ (by decide +kernel)) ggX9_isOnList_X9_sizeOf
set_option maxRecDepth 20000 in
theorem ggX9_isOnList_X9_letterAt : GoodIn wsX9_isOnList wsX9_letterAt := goodIn_r _ [11, 1, 12, 13, 14, 15, 16, 17, 18, 19, 20, 21, 22, 23, 24, 25, 26, 27, 28, 29, 30] (by decide +kernel) (by decide +kernel)
set_option maxRecDepth 20000 in
theorem gX9_isOnList_X9_letterAt : GoodIn wsX9_isOnList (wsV RX9 68 RX9 yX9_letterAt wsX9_letterAt) := goodIn_app (goodIn_of _ (by decide +kernel)) ggX9_isOnList_X9_letterAt
theorem dX9_isOnList_0 : decode cX9_isOnList 0 = .ok (.iconst 0, 1) := by decide +kernel
theorem dX9_isOnList_1 : decode cX9_isOnList 1 = .ok (.istore_n 3, 1) := by decide +kernel
theorem dX9_isOnList_2 : decode cX9_isOnList 2 = .ok (.iconst 0, 1) := by decide +kernel
theorem dX9_isOnList_3 : decode cX9_isOnList 3 = .ok (.istore 4, 2) := by decide +kernel
theorem dX9_isOnList_5 : decode cX9_isOnList 5 = .ok (.iload 4, 2) := by decide +kernel
theorem dX9_isOnList_7 : decode cX9_isOnList 7 = .ok (.aload_n 0, 1) := by decide +kernel
theorem dX9_isOnList_8 : decode cX9_isOnList 8 = .ok (.getfield 7, 3) := by decide +kernel
theorem dX9_isOnList_11 : decode cX9_isOnList 11 = .ok (.iconst 5, 1) := by decide +kernel
theorem dX9_isOnList_12 : decode cX9_isOnList 12 = .ok (.iaload, 1) := by decide +kernel
theorem dX9_isOnList_13 : decode cX9_isOnList 13 = .ok (.if_icmp .ge 91, 3) := by decide +kernel
theorem dX9_isOnList_16 : decode cX9_isOnList 16 = .ok (.aload_n 0, 1) := by decide +kernel
theorem dX9_isOnList_17 : decode cX9_isOnList 17 = .ok (.iload 4, 2) := by decide +kernel
theorem dX9_isOnList_19 : decode cX9_isOnList 19 = .ok (.invokevirtual 64, 3) := by decide +kernel
theorem dX9_isOnList_22 : decode cX9_isOnList 22 = .ok (.iload_n 2, 1) := by decide +kernel
theorem dX9_isOnList_23 : decode cX9_isOnList 23 = .ok (.if_icmp .ne 7, 3) := by decide +kernel
theorem dX9_isOnList_26 : decode cX9_isOnList 26 = .ok (.iconst 1, 1) := by decide +kernel
theorem dX9_isOnList_27 : decode cX9_isOnList 27 = .ok (.goto 4, 3) := by decide +kernel
theorem dX9_isOnList_30 : decode cX9_isOnList 30 = .ok (.iconst 0, 1) := by decide +kernel
theorem dX9_isOnList_31 : decode cX9_isOnList 31 = .ok (.istore 5, 2) := by decide +kernel
theorem dX9_isOnList_33 : decode cX9_isOnList 33 = .ok (.iconst 0, 1) := by decide +kernel
theorem dX9_isOnList_34 : decode cX9_isOnList 34 = .ok (.istore 6, 2) := by decide +kernel
theorem dX9_isOnList_36 : decode cX9_isOnList 36 = .ok (.iload 6, 2) := by decide +kernel
theorem dX9_isOnList_38 : decode cX9_isOnList 38 = .ok (.iload_n 2, 1) := by decide +kernel
theorem dX9_isOnList_39 : decode cX9_isOnList 39 = .ok (.if_icmp .ge 44, 3) := by decide +kernel
theorem dX9_isOnList_42 : decode cX9_isOnList 42 = .ok (.iload 5, 2) := by decide +kernel
theorem dX9_isOnList_44 : decode cX9_isOnList 44 = .ok (.ifCond .eq 39, 3) := by decide +kernel
theorem dX9_isOnList_47 : decode cX9_isOnList 47 = .ok (.aload_n 0, 1) := by decide +kernel
theorem dX9_isOnList_48 : decode cX9_isOnList 48 = .ok (.iload 4, 2) := by decide +kernel
theorem dX9_isOnList_50 : decode cX9_isOnList 50 = .ok (.iload 6, 2) := by decide +kernel
theorem dX9_isOnList_52 : decode cX9_isOnList 52 = .ok (.invokevirtual 68, 3) := by decide +kernel
theorem dX9_isOnList_55 : decode cX9_isOnList 55 = .ok (.aload_n 0, 1) := by decide +kernel
theorem dX9_isOnList_56 : decode cX9_isOnList 56 = .ok (.getfield 37, 3) := by decide +kernel
theorem dX9_isOnList_59 : decode cX9_isOnList 59 = .ok (.iload_n 1, 1) := by decide +kernel
theorem dX9_isOnList_60 : decode cX9_isOnList 60 = .ok (.iload 6, 2) := by decide +kernel
theorem dX9_isOnList_62 : decode cX9_isOnList 62 = .ok (.iadd, 1) := by decide +kernel
theorem dX9_isOnList_63 : decode cX9_isOnList 63 = .ok (.iaload, 1) := by decide +kernel
theorem dX9_isOnList_64 : decode cX9_isOnList 64 = .ok (.bipush 97, 2) := by decide +kernel
theorem dX9_isOnList_66 : decode cX9_isOnList 66 = .ok (.isub, 1) := by decide +kernel
theorem dX9_isOnList_67 : decode cX9_isOnList 67 = .ok (.if_icmp .ne 7, 3) := by decide +kernel
theorem dX9_isOnList_70 : decode cX9_isOnList 70 = .ok (.iconst 1, 1) := by decide +kernel
theorem dX9_isOnList_71 : decode cX9_isOnList 71 = .ok (.goto 4, 3) := by decide +kernel
theorem dX9_isOnList_74 : decode cX9_isOnList 74 = .ok (.iconst 0, 1) := by decide +kernel
theorem dX9_isOnList_75 : decode cX9_isOnList 75 = .ok (.istore 5, 2) := by decide +kernel
theorem dX9_isOnList_77 : decode cX9_isOnList 77 = .ok (.iinc 6 1, 3) := by decide +kernel
theorem dX9_isOnList_80 : decode cX9_isOnList 80 = .ok (.goto (-44), 3) := by decide +kernel
theorem dX9_isOnList_83 : decode cX9_isOnList 83 = .ok (.iload_n 3, 1) := by decide +kernel
theorem dX9_isOnList_84 : decode cX9_isOnList 84 = .ok (.ifCond .ne 8, 3) := by decide +kernel
theorem dX9_isOnList_87 : decode cX9_isOnList 87 = .ok (.iload 5, 2) := by decide +kernel
theorem dX9_isOnList_89 : decode cX9_isOnList 89 = .ok (.ifCond .eq 7, 3) := by decide +kernel
theorem dX9_isOnList_92 : decode cX9_isOnList 92 = .ok (.iconst 1, 1) := by decide +kernel
theorem dX9_isOnList_93 : decode cX9_isOnList 93 = .ok (.goto 4, 3) := by decide +kernel
theorem dX9_isOnList_96 : decode cX9_isOnList 96 = .ok (.iconst 0, 1) := by decide +kernel
theorem dX9_isOnList_97 : decode cX9_isOnList 97 = .ok (.istore_n 3, 1) := by decide +kernel
theorem dX9_isOnList_98 : decode cX9_isOnList 98 = .ok (.iinc 4 1, 3) := by decide +kernel
theorem dX9_isOnList_101 : decode cX9_isOnList 101 = .ok (.goto (-96), 3) := by decide +kernel
theorem dX9_isOnList_104 : decode cX9_isOnList 104 = .ok (.iload_n 3, 1) := by decide +kernel
theorem dX9_isOnList_105 : decode cX9_isOnList 105 = .ok (.ireturn, 1) := by decide +kernel
set_option maxRecDepth 20000 in
theorem ggX9_addsAll_X9_isLetter : GoodIn wsX9_addsAll wsX9_isLetter := goodIn_r _ [8, 1, 3, 9, 10, 11, 12, 7, 13, 26, 27, 28, 29, 30, 31, 32, 33, 34, 35, 36, 37, 38, 39, 40, 41, 42, 43, 44] (by decide +kernel) (by decide +kernel)
set_option maxRecDepth 20000 in
theorem gX9_addsAll_X9_isLetter : GoodIn wsX9_addsAll (wsV RX9 123 RX9 yX9_isLetter wsX9_isLetter) := goodIn_app (goodIn_of _ (by decide +kernel)) ggX9_addsAll_X9_isLetter
set_option maxRecDepth 20000 in
theorem ggX9_addsAll_X9_isOnList : GoodIn wsX9_addsAll wsX9_isOnList := goodIn_r _ [17, 2, 3, 18, 19, 20, 7, 21, 22, 23, 24, 25, 26, 27, 28, 29, 30, 31, 32, 33, 34, 35, 36, 37, 38, 39, 40, 41, 42, 43, 44] (by decide +kernel) (by decide +kernel)
set_option maxRecDepth 20000 in
theorem gX9_addsAll_X9_isOnList : GoodIn wsX9_addsAll (wsV RX9 142 RX9 yX9_isOnList wsX9_isOnList) := goodIn_app (goodIn_of _ (by decide +kernel)) ggX9_addsAll_X9_isOnList
theorem dX9_addsAll_0 : decode cX9_addsAll 0 = .ok (.iconst 0, 1) := by decide +kernel
theorem dX9_addsAll_1 : decode cX9_addsAll 1 = .ok (.istore_n 1, 1) := by decide +kernel
theorem dX9_addsAll_2 : decode cX9_addsAll 2 = .ok (.iload_n 1, 1) := by decide +kernel
theorem dX9_addsAll_3 : decode cX9_addsAll 3 = .ok (.aload_n 0, 1) := by decide +kernel
theorem dX9_addsAll_4 : decode cX9_addsAll 4 = .ok (.getfield 113, 3) := by decide +kernel
theorem dX9_addsAll_7 : decode cX9_addsAll 7 = .ok (.if_icmp .ge 121, 3) := by decide +kernel
theorem dX9_addsAll_10 : decode cX9_addsAll 10 = .ok (.iconst 0, 1) := by decide +kernel
theorem dX9_addsAll_11 : decode cX9_addsAll 11 = .ok (.istore_n 2, 1) := by decide +kernel
theorem dX9_addsAll_12 : decode cX9_addsAll 12 = .ok (.aload_n 0, 1) := by decide +kernel
theorem dX9_addsAll_13 : decode cX9_addsAll 13 = .ok (.iload_n 1, 1) := by decide +kernel
theorem dX9_addsAll_14 : decode cX9_addsAll 14 = .ok (.iload_n 2, 1) := by decide +kernel
theorem dX9_addsAll_15 : decode cX9_addsAll 15 = .ok (.iadd, 1) := by decide +kernel
theorem dX9_addsAll_16 : decode cX9_addsAll 16 = .ok (.invokevirtual 123, 3) := by decide +kernel
theorem dX9_addsAll_19 : decode cX9_addsAll 19 = .ok (.ifCond .eq 9, 3) := by decide +kernel
theorem dX9_addsAll_22 : decode cX9_addsAll 22 = .ok (.iinc 2 1, 3) := by decide +kernel
theorem dX9_addsAll_25 : decode cX9_addsAll 25 = .ok (.goto (-13), 3) := by decide +kernel
theorem dX9_addsAll_28 : decode cX9_addsAll 28 = .ok (.aload_n 0, 1) := by decide +kernel
theorem dX9_addsAll_29 : decode cX9_addsAll 29 = .ok (.iload_n 1, 1) := by decide +kernel
theorem dX9_addsAll_30 : decode cX9_addsAll 30 = .ok (.iload_n 2, 1) := by decide +kernel
theorem dX9_addsAll_31 : decode cX9_addsAll 31 = .ok (.invokevirtual 142, 3) := by decide +kernel
theorem dX9_addsAll_34 : decode cX9_addsAll 34 = .ok (.ifCond .ne 85, 3) := by decide +kernel
theorem dX9_addsAll_37 : decode cX9_addsAll 37 = .ok (.aload_n 0, 1) := by decide +kernel
theorem dX9_addsAll_38 : decode cX9_addsAll 38 = .ok (.getfield 7, 3) := by decide +kernel
theorem dX9_addsAll_41 : decode cX9_addsAll 41 = .ok (.iconst 5, 1) := by decide +kernel
theorem dX9_addsAll_42 : decode cX9_addsAll 42 = .ok (.iaload, 1) := by decide +kernel
theorem dX9_addsAll_43 : decode cX9_addsAll 43 = .ok (.bipush 20, 2) := by decide +kernel
theorem dX9_addsAll_45 : decode cX9_addsAll 45 = .ok (.if_icmp .ne 5, 3) := by decide +kernel
theorem dX9_addsAll_48 : decode cX9_addsAll 48 = .ok (.iconst 0, 1) := by decide +kernel
theorem dX9_addsAll_49 : decode cX9_addsAll 49 = .ok (.ireturn, 1) := by decide +kernel
theorem dX9_addsAll_50 : decode cX9_addsAll 50 = .ok (.sipush 1410, 3) := by decide +kernel
theorem dX9_addsAll_53 : decode cX9_addsAll 53 = .ok (.bipush 16, 2) := by decide +kernel
theorem dX9_addsAll_55 : decode cX9_addsAll 55 = .ok (.aload_n 0, 1) := by decide +kernel
theorem dX9_addsAll_56 : decode cX9_addsAll 56 = .ok (.getfield 7, 3) := by decide +kernel
theorem dX9_addsAll_59 : decode cX9_addsAll 59 = .ok (.iconst 5, 1) := by decide +kernel
theorem dX9_addsAll_60 : decode cX9_addsAll 60 = .ok (.iaload, 1) := by decide +kernel
theorem dX9_addsAll_61 : decode cX9_addsAll 61 = .ok (.imul, 1) := by decide +kernel
theorem dX9_addsAll_62 : decode cX9_addsAll 62 = .ok (.iadd, 1) := by decide +kernel
theorem dX9_addsAll_63 : decode cX9_addsAll 63 = .ok (.istore_n 3, 1) := by decide +kernel
theorem dX9_addsAll_64 : decode cX9_addsAll 64 = .ok (.aload_n 0, 1) := by decide +kernel
theorem dX9_addsAll_65 : decode cX9_addsAll 65 = .ok (.getfield 7, 3) := by decide +kernel
theorem dX9_addsAll_68 : decode cX9_addsAll 68 = .ok (.iload_n 3, 1) := by decide +kernel
theorem dX9_addsAll_69 : decode cX9_addsAll 69 = .ok (.iload_n 2, 1) := by decide +kernel
theorem dX9_addsAll_70 : decode cX9_addsAll 70 = .ok (.iastore, 1) := by decide +kernel
theorem dX9_addsAll_71 : decode cX9_addsAll 71 = .ok (.iconst 0, 1) := by decide +kernel
theorem dX9_addsAll_72 : decode cX9_addsAll 72 = .ok (.istore 4, 2) := by decide +kernel
theorem dX9_addsAll_74 : decode cX9_addsAll 74 = .ok (.iload 4, 2) := by decide +kernel
theorem dX9_addsAll_76 : decode cX9_addsAll 76 = .ok (.iload_n 2, 1) := by decide +kernel
theorem dX9_addsAll_77 : decode cX9_addsAll 77 = .ok (.if_icmp .ge 32, 3) := by decide +kernel
theorem dX9_addsAll_80 : decode cX9_addsAll 80 = .ok (.aload_n 0, 1) := by decide +kernel
theorem dX9_addsAll_81 : decode cX9_addsAll 81 = .ok (.getfield 7, 3) := by decide +kernel
theorem dX9_addsAll_84 : decode cX9_addsAll 84 = .ok (.iload_n 3, 1) := by decide +kernel
theorem dX9_addsAll_85 : decode cX9_addsAll 85 = .ok (.iconst 1, 1) := by decide +kernel
theorem dX9_addsAll_86 : decode cX9_addsAll 86 = .ok (.iadd, 1) := by decide +kernel
theorem dX9_addsAll_87 : decode cX9_addsAll 87 = .ok (.iload 4, 2) := by decide +kernel
theorem dX9_addsAll_89 : decode cX9_addsAll 89 = .ok (.iadd, 1) := by decide +kernel
theorem dX9_addsAll_90 : decode cX9_addsAll 90 = .ok (.aload_n 0, 1) := by decide +kernel
theorem dX9_addsAll_91 : decode cX9_addsAll 91 = .ok (.getfield 37, 3) := by decide +kernel
theorem dX9_addsAll_94 : decode cX9_addsAll 94 = .ok (.iload_n 1, 1) := by decide +kernel
theorem dX9_addsAll_95 : decode cX9_addsAll 95 = .ok (.iload 4, 2) := by decide +kernel
theorem dX9_addsAll_97 : decode cX9_addsAll 97 = .ok (.iadd, 1) := by decide +kernel
theorem dX9_addsAll_98 : decode cX9_addsAll 98 = .ok (.iaload, 1) := by decide +kernel
theorem dX9_addsAll_99 : decode cX9_addsAll 99 = .ok (.bipush 97, 2) := by decide +kernel
theorem dX9_addsAll_101 : decode cX9_addsAll 101 = .ok (.isub, 1) := by decide +kernel
theorem dX9_addsAll_102 : decode cX9_addsAll 102 = .ok (.iastore, 1) := by decide +kernel
theorem dX9_addsAll_103 : decode cX9_addsAll 103 = .ok (.iinc 4 1, 3) := by decide +kernel
theorem dX9_addsAll_106 : decode cX9_addsAll 106 = .ok (.goto (-32), 3) := by decide +kernel
theorem dX9_addsAll_109 : decode cX9_addsAll 109 = .ok (.aload_n 0, 1) := by decide +kernel
theorem dX9_addsAll_110 : decode cX9_addsAll 110 = .ok (.getfield 7, 3) := by decide +kernel
theorem dX9_addsAll_113 : decode cX9_addsAll 113 = .ok (.iconst 5, 1) := by decide +kernel
theorem dX9_addsAll_114 : decode cX9_addsAll 114 = .ok (.dup2, 1) := by decide +kernel
theorem dX9_addsAll_115 : decode cX9_addsAll 115 = .ok (.iaload, 1) := by decide +kernel
theorem dX9_addsAll_116 : decode cX9_addsAll 116 = .ok (.iconst 1, 1) := by decide +kernel
theorem dX9_addsAll_117 : decode cX9_addsAll 117 = .ok (.iadd, 1) := by decide +kernel
theorem dX9_addsAll_118 : decode cX9_addsAll 118 = .ok (.iastore, 1) := by decide +kernel
theorem dX9_addsAll_119 : decode cX9_addsAll 119 = .ok (.iload_n 1, 1) := by decide +kernel
theorem dX9_addsAll_120 : decode cX9_addsAll 120 = .ok (.iload_n 2, 1) := by decide +kernel
theorem dX9_addsAll_121 : decode cX9_addsAll 121 = .ok (.iconst 1, 1) := by decide +kernel
theorem dX9_addsAll_122 : decode cX9_addsAll 122 = .ok (.iadd, 1) := by decide +kernel
theorem dX9_addsAll_123 : decode cX9_addsAll 123 = .ok (.iadd, 1) := by decide +kernel
theorem dX9_addsAll_124 : decode cX9_addsAll 124 = .ok (.istore_n 1, 1) := by decide +kernel
theorem dX9_addsAll_125 : decode cX9_addsAll 125 = .ok (.goto (-123), 3) := by decide +kernel
theorem dX9_addsAll_128 : decode cX9_addsAll 128 = .ok (.iconst 1, 1) := by decide +kernel
theorem dX9_addsAll_129 : decode cX9_addsAll 129 = .ok (.ireturn, 1) := by decide +kernel
set_option maxRecDepth 20000 in
theorem ggX9_addWords_X9_faultOfWords : GoodIn wsX9_addWords wsX9_faultOfWords := goodIn_r _ [7, 8, 9, 10, 11, 12, 6, 13, 14, 15, 16, 17, 18, 48, 49, 50, 51, 52, 53, 54, 55, 56, 57, 58, 59, 60, 61, 62, 63, 64, 65, 66] (by decide +kernel) (by decide +kernel)
set_option maxRecDepth 20000 in
theorem gX9_addWords_X9_faultOfWords : GoodIn wsX9_addWords (wsV RX9 145 RX9 yX9_faultOfWords wsX9_faultOfWords) := goodIn_app (goodIn_of _ (by decide +kernel)) ggX9_addWords_X9_faultOfWords
set_option maxRecDepth 20000 in
theorem ggX9_addWords_X9_remember : GoodIn wsX9_addWords wsX9_remember := goodIn_r _ [22, 2, 1, 23, 24, 6, 25, 48, 49, 50, 51, 52, 53, 54, 55, 56, 57, 58, 59, 60, 61, 62, 63, 64, 65, 66] (by decide +kernel) (by decide +kernel)
set_option maxRecDepth 20000 in
theorem gX9_addWords_X9_remember : GoodIn wsX9_addWords (wsV RX9 132 RX9 yX9_remember wsX9_remember) := goodIn_app (goodIn_of _ (by decide +kernel)) ggX9_addWords_X9_remember
set_option maxRecDepth 20000 in
theorem ggX9_addWords_X9_addsAll : GoodIn wsX9_addWords wsX9_addsAll := goodIn_r _ [29, 8, 2, 9, 10, 11, 12, 6, 13, 14, 15, 16, 17, 18, 30, 31, 32, 33, 34, 35, 36, 37, 38, 39, 40, 41, 48, 49, 50, 51, 52, 53, 54, 55, 56, 57, 58, 59, 60, 61, 62, 63, 64, 65, 66] (by decide +kernel) (by decide +kernel)
set_option maxRecDepth 20000 in
theorem gX9_addWords_X9_addsAll : GoodIn wsX9_addWords (wsV RX9 148 RX9 yX9_addsAll wsX9_addsAll) := goodIn_app (goodIn_of _ (by decide +kernel)) ggX9_addWords_X9_addsAll
set_option maxRecDepth 20000 in
theorem ggX9_addWords_X9_copy : GoodIn wsX9_addWords wsX9_copy := goodIn_r _ [25] (by decide +kernel) (by decide +kernel)
set_option maxRecDepth 20000 in
theorem gX9_addWords_X9_copy : GoodIn wsX9_addWords (va_wsS RX9 49 yX9_copy wsX9_copy) := goodIn_app (goodIn_of _ (by decide +kernel)) ggX9_addWords_X9_copy
set_option maxRecDepth 20000 in
theorem ggX9_addWords_X9_acted : GoodIn wsX9_addWords wsX9_acted := goodIn_r _ [45, 46, 47, 1, 48, 49, 50, 51, 52, 53, 54, 55, 56, 57, 58, 59, 60, 61, 62, 63, 64, 65, 66] (by decide +kernel) (by decide +kernel)
set_option maxRecDepth 20000 in
theorem gX9_addWords_X9_acted : GoodIn wsX9_addWords (wsV RX9 135 RX9 yX9_acted wsX9_acted) := goodIn_app (goodIn_of _ (by decide +kernel)) ggX9_addWords_X9_acted
