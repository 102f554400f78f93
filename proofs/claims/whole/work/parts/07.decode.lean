/-! decode rows and calls' words, printed -/
theorem dX9_addWords_0 : decode cX9_addWords 0 = .ok (.aload_n 0, 1) := by decide +kernel
theorem dX9_addWords_1 : decode cX9_addWords 1 = .ok (.invokevirtual 145, 3) := by decide +kernel
theorem dX9_addWords_4 : decode cX9_addWords 4 = .ok (.istore_n 1, 1) := by decide +kernel
theorem dX9_addWords_5 : decode cX9_addWords 5 = .ok (.iload_n 1, 1) := by decide +kernel
theorem dX9_addWords_6 : decode cX9_addWords 6 = .ok (.bipush (-5), 2) := by decide +kernel
theorem dX9_addWords_8 : decode cX9_addWords 8 = .ok (.if_icmp .eq 8, 3) := by decide +kernel
theorem dX9_addWords_11 : decode cX9_addWords 11 = .ok (.bipush (-100), 2) := by decide +kernel
theorem dX9_addWords_13 : decode cX9_addWords 13 = .ok (.iload_n 1, 1) := by decide +kernel
theorem dX9_addWords_14 : decode cX9_addWords 14 = .ok (.isub, 1) := by decide +kernel
theorem dX9_addWords_15 : decode cX9_addWords 15 = .ok (.ireturn, 1) := by decide +kernel
theorem dX9_addWords_16 : decode cX9_addWords 16 = .ok (.aload_n 0, 1) := by decide +kernel
theorem dX9_addWords_17 : decode cX9_addWords 17 = .ok (.invokevirtual 132, 3) := by decide +kernel
theorem dX9_addWords_20 : decode cX9_addWords 20 = .ok (.aload_n 0, 1) := by decide +kernel
theorem dX9_addWords_21 : decode cX9_addWords 21 = .ok (.invokevirtual 148, 3) := by decide +kernel
theorem dX9_addWords_24 : decode cX9_addWords 24 = .ok (.ifCond .ne 17, 3) := by decide +kernel
theorem dX9_addWords_27 : decode cX9_addWords 27 = .ok (.aload_n 0, 1) := by decide +kernel
theorem dX9_addWords_28 : decode cX9_addWords 28 = .ok (.getfield 13, 3) := by decide +kernel
theorem dX9_addWords_31 : decode cX9_addWords 31 = .ok (.aload_n 0, 1) := by decide +kernel
theorem dX9_addWords_32 : decode cX9_addWords 32 = .ok (.getfield 7, 3) := by decide +kernel
theorem dX9_addWords_35 : decode cX9_addWords 35 = .ok (.invokestatic 49, 3) := by decide +kernel
theorem dX9_addWords_38 : decode cX9_addWords 38 = .ok (.bipush (-3), 2) := by decide +kernel
theorem dX9_addWords_40 : decode cX9_addWords 40 = .ok (.ireturn, 1) := by decide +kernel
theorem dX9_addWords_41 : decode cX9_addWords 41 = .ok (.aload_n 0, 1) := by decide +kernel
theorem dX9_addWords_42 : decode cX9_addWords 42 = .ok (.getfield 7, 3) := by decide +kernel
theorem dX9_addWords_45 : decode cX9_addWords 45 = .ok (.iconst 5, 1) := by decide +kernel
theorem dX9_addWords_46 : decode cX9_addWords 46 = .ok (.iaload, 1) := by decide +kernel
theorem dX9_addWords_47 : decode cX9_addWords 47 = .ok (.aload_n 0, 1) := by decide +kernel
theorem dX9_addWords_48 : decode cX9_addWords 48 = .ok (.getfield 13, 3) := by decide +kernel
theorem dX9_addWords_51 : decode cX9_addWords 51 = .ok (.iconst 5, 1) := by decide +kernel
theorem dX9_addWords_52 : decode cX9_addWords 52 = .ok (.iaload, 1) := by decide +kernel
theorem dX9_addWords_53 : decode cX9_addWords 53 = .ok (.isub, 1) := by decide +kernel
theorem dX9_addWords_54 : decode cX9_addWords 54 = .ok (.istore_n 2, 1) := by decide +kernel
theorem dX9_addWords_55 : decode cX9_addWords 55 = .ok (.iload_n 2, 1) := by decide +kernel
theorem dX9_addWords_56 : decode cX9_addWords 56 = .ok (.ifCond .ne 8, 3) := by decide +kernel
theorem dX9_addWords_59 : decode cX9_addWords 59 = .ok (.bipush (-5), 2) := by decide +kernel
theorem dX9_addWords_61 : decode cX9_addWords 61 = .ok (.goto 8, 3) := by decide +kernel
theorem dX9_addWords_64 : decode cX9_addWords 64 = .ok (.aload_n 0, 1) := by decide +kernel
theorem dX9_addWords_65 : decode cX9_addWords 65 = .ok (.iload_n 2, 1) := by decide +kernel
theorem dX9_addWords_66 : decode cX9_addWords 66 = .ok (.invokevirtual 135, 3) := by decide +kernel
theorem dX9_addWords_69 : decode cX9_addWords 69 = .ok (.ireturn, 1) := by decide +kernel
set_option maxRecDepth 20000 in
theorem ggX9_removeWord_X9_isWord : GoodIn wsX9_removeWord wsX9_isWord := goodIn_r _ [6, 1, 7, 8, 5, 9, 24, 25, 26, 27, 28, 29, 30, 31, 32, 33, 34, 35, 36, 37, 38, 39, 40, 41, 42] (by decide +kernel) (by decide +kernel)
set_option maxRecDepth 20000 in
theorem gX9_removeWord_X9_isWord : GoodIn wsX9_removeWord (wsV RX9 152 RX9 yX9_isWord wsX9_isWord) := goodIn_app (goodIn_of _ (by decide +kernel)) ggX9_removeWord_X9_isWord
set_option maxRecDepth 20000 in
theorem ggX9_removeWord_X9_remember : GoodIn wsX9_removeWord wsX9_remember := goodIn_r _ [13, 1, 14, 15, 16, 5, 17, 24, 25, 26, 27, 28, 29, 30, 31, 32, 33, 34, 35, 36, 37, 38, 39, 40, 41, 42] (by decide +kernel) (by decide +kernel)
set_option maxRecDepth 20000 in
theorem gX9_removeWord_X9_remember : GoodIn wsX9_removeWord (wsV RX9 132 RX9 yX9_remember wsX9_remember) := goodIn_app (goodIn_of _ (by decide +kernel)) ggX9_removeWord_X9_remember
set_option maxRecDepth 20000 in
theorem ggX9_removeWord_X9_acted : GoodIn wsX9_removeWord wsX9_acted := goodIn_r _ [21, 22, 23, 14, 24, 25, 26, 27, 28, 29, 30, 31, 32, 33, 34, 35, 36, 37, 38, 39, 40, 41, 42] (by decide +kernel) (by decide +kernel)
set_option maxRecDepth 20000 in
theorem gX9_removeWord_X9_acted : GoodIn wsX9_removeWord (wsV RX9 135 RX9 yX9_acted wsX9_acted) := goodIn_app (goodIn_of _ (by decide +kernel)) ggX9_removeWord_X9_acted
theorem dX9_removeWord_0 : decode cX9_removeWord 0 = .ok (.aload_n 0, 1) := by decide +kernel
theorem dX9_removeWord_1 : decode cX9_removeWord 1 = .ok (.iload_n 1, 1) := by decide +kernel
theorem dX9_removeWord_2 : decode cX9_removeWord 2 = .ok (.invokevirtual 152, 3) := by decide +kernel
theorem dX9_removeWord_5 : decode cX9_removeWord 5 = .ok (.ifCond .ne 5, 3) := by decide +kernel
theorem dX9_removeWord_8 : decode cX9_removeWord 8 = .ok (.iconst (-1), 1) := by decide +kernel
theorem dX9_removeWord_9 : decode cX9_removeWord 9 = .ok (.ireturn, 1) := by decide +kernel
theorem dX9_removeWord_10 : decode cX9_removeWord 10 = .ok (.aload_n 0, 1) := by decide +kernel
theorem dX9_removeWord_11 : decode cX9_removeWord 11 = .ok (.invokevirtual 132, 3) := by decide +kernel
theorem dX9_removeWord_14 : decode cX9_removeWord 14 = .ok (.aload_n 0, 1) := by decide +kernel
theorem dX9_removeWord_15 : decode cX9_removeWord 15 = .ok (.getfield 7, 3) := by decide +kernel
theorem dX9_removeWord_18 : decode cX9_removeWord 18 = .ok (.iconst 5, 1) := by decide +kernel
theorem dX9_removeWord_19 : decode cX9_removeWord 19 = .ok (.dup2, 1) := by decide +kernel
theorem dX9_removeWord_20 : decode cX9_removeWord 20 = .ok (.iaload, 1) := by decide +kernel
theorem dX9_removeWord_21 : decode cX9_removeWord 21 = .ok (.iconst 1, 1) := by decide +kernel
theorem dX9_removeWord_22 : decode cX9_removeWord 22 = .ok (.isub, 1) := by decide +kernel
theorem dX9_removeWord_23 : decode cX9_removeWord 23 = .ok (.iastore, 1) := by decide +kernel
theorem dX9_removeWord_24 : decode cX9_removeWord 24 = .ok (.sipush 1410, 3) := by decide +kernel
theorem dX9_removeWord_27 : decode cX9_removeWord 27 = .ok (.bipush 16, 2) := by decide +kernel
theorem dX9_removeWord_29 : decode cX9_removeWord 29 = .ok (.iload_n 1, 1) := by decide +kernel
theorem dX9_removeWord_30 : decode cX9_removeWord 30 = .ok (.imul, 1) := by decide +kernel
theorem dX9_removeWord_31 : decode cX9_removeWord 31 = .ok (.iadd, 1) := by decide +kernel
theorem dX9_removeWord_32 : decode cX9_removeWord 32 = .ok (.istore_n 2, 1) := by decide +kernel
theorem dX9_removeWord_33 : decode cX9_removeWord 33 = .ok (.iload_n 2, 1) := by decide +kernel
theorem dX9_removeWord_34 : decode cX9_removeWord 34 = .ok (.sipush 1410, 3) := by decide +kernel
theorem dX9_removeWord_37 : decode cX9_removeWord 37 = .ok (.bipush 16, 2) := by decide +kernel
theorem dX9_removeWord_39 : decode cX9_removeWord 39 = .ok (.aload_n 0, 1) := by decide +kernel
theorem dX9_removeWord_40 : decode cX9_removeWord 40 = .ok (.getfield 7, 3) := by decide +kernel
theorem dX9_removeWord_43 : decode cX9_removeWord 43 = .ok (.iconst 5, 1) := by decide +kernel
theorem dX9_removeWord_44 : decode cX9_removeWord 44 = .ok (.iaload, 1) := by decide +kernel
theorem dX9_removeWord_45 : decode cX9_removeWord 45 = .ok (.imul, 1) := by decide +kernel
theorem dX9_removeWord_46 : decode cX9_removeWord 46 = .ok (.iadd, 1) := by decide +kernel
theorem dX9_removeWord_47 : decode cX9_removeWord 47 = .ok (.if_icmp .ge 24, 3) := by decide +kernel
theorem dX9_removeWord_50 : decode cX9_removeWord 50 = .ok (.aload_n 0, 1) := by decide +kernel
theorem dX9_removeWord_51 : decode cX9_removeWord 51 = .ok (.getfield 7, 3) := by decide +kernel
theorem dX9_removeWord_54 : decode cX9_removeWord 54 = .ok (.iload_n 2, 1) := by decide +kernel
theorem dX9_removeWord_55 : decode cX9_removeWord 55 = .ok (.aload_n 0, 1) := by decide +kernel
theorem dX9_removeWord_56 : decode cX9_removeWord 56 = .ok (.getfield 7, 3) := by decide +kernel
theorem dX9_removeWord_59 : decode cX9_removeWord 59 = .ok (.iload_n 2, 1) := by decide +kernel
theorem dX9_removeWord_60 : decode cX9_removeWord 60 = .ok (.bipush 16, 2) := by decide +kernel
theorem dX9_removeWord_62 : decode cX9_removeWord 62 = .ok (.iadd, 1) := by decide +kernel
theorem dX9_removeWord_63 : decode cX9_removeWord 63 = .ok (.iaload, 1) := by decide +kernel
theorem dX9_removeWord_64 : decode cX9_removeWord 64 = .ok (.iastore, 1) := by decide +kernel
theorem dX9_removeWord_65 : decode cX9_removeWord 65 = .ok (.iinc 2 1, 3) := by decide +kernel
theorem dX9_removeWord_68 : decode cX9_removeWord 68 = .ok (.goto (-35), 3) := by decide +kernel
theorem dX9_removeWord_71 : decode cX9_removeWord 71 = .ok (.aload_n 0, 1) := by decide +kernel
theorem dX9_removeWord_72 : decode cX9_removeWord 72 = .ok (.aload_n 0, 1) := by decide +kernel
theorem dX9_removeWord_73 : decode cX9_removeWord 73 = .ok (.getfield 7, 3) := by decide +kernel
theorem dX9_removeWord_76 : decode cX9_removeWord 76 = .ok (.iconst 5, 1) := by decide +kernel
theorem dX9_removeWord_77 : decode cX9_removeWord 77 = .ok (.iaload, 1) := by decide +kernel
theorem dX9_removeWord_78 : decode cX9_removeWord 78 = .ok (.invokevirtual 135, 3) := by decide +kernel
theorem dX9_removeWord_81 : decode cX9_removeWord 81 = .ok (.ireturn, 1) := by decide +kernel
set_option maxRecDepth 20000 in
theorem ggX9_isLines_X9_in : GoodIn wsX9_isLines wsX9_in := goodIn_r _ [5] (by decide +kernel) (by decide +kernel)
set_option maxRecDepth 20000 in
theorem gX9_isLines_X9_in : GoodIn wsX9_isLines (va_wsS RX9 57 yX9_in wsX9_in) := goodIn_app (goodIn_of _ (by decide +kernel)) ggX9_isLines_X9_in
theorem dX9_isLines_0 : decode cX9_isLines 0 = .ok (.iload_n 0, 1) := by decide +kernel
theorem dX9_isLines_1 : decode cX9_isLines 1 = .ok (.i2l, 1) := by decide +kernel
theorem dX9_isLines_2 : decode cX9_isLines 2 = .ok (.lconst 1, 1) := by decide +kernel
theorem dX9_isLines_3 : decode cX9_isLines 3 = .ok (.ldc2_w 155, 3) := by decide +kernel
theorem dX9_isLines_6 : decode cX9_isLines 6 = .ok (.invokestatic 57, 3) := by decide +kernel
theorem dX9_isLines_9 : decode cX9_isLines 9 = .ok (.ireturn, 1) := by decide +kernel
set_option maxRecDepth 20000 in
theorem ggX9_doSheet_X9_isLines : GoodIn wsX9_doSheet wsX9_isLines := goodIn_r _ [5, 6, 7, 8, 4, 9] (by decide +kernel) (by decide +kernel)
set_option maxRecDepth 20000 in
theorem gX9_doSheet_X9_isLines : GoodIn wsX9_doSheet (va_wsS RX9 157 yX9_isLines wsX9_isLines) := goodIn_app (goodIn_of _ (by decide +kernel)) ggX9_doSheet_X9_isLines
set_option maxRecDepth 20000 in
theorem ggX9_doSheet_X9_makesSheet : GoodIn wsX9_doSheet wsX9_makesSheet := goodIn_r _ [13, 1, 14, 15, 16, 17, 18, 19, 20, 21, 4, 22, 23, 24, 25, 26, 27, 28, 29, 30, 31, 32, 33, 34, 35, 36, 37, 38, 39, 40, 41, 42, 43, 44, 45, 46, 47, 48, 49, 50, 51, 52, 53, 54, 55, 56, 57, 58, 59, 60, 61, 62, 85, 86, 87, 88, 89, 90, 91, 92, 93, 94, 95, 96, 97, 98, 99, 100, 101, 102, 103] (by decide +kernel) (by decide +kernel)
set_option maxRecDepth 20000 in
theorem gX9_doSheet_X9_makesSheet : GoodIn wsX9_doSheet (wsV RX9 160 RX9 yX9_makesSheet wsX9_makesSheet) := goodIn_app (goodIn_of _ (by decide +kernel)) ggX9_doSheet_X9_makesSheet
set_option maxRecDepth 20000 in
theorem ggX9_doSheet_X9_remember : GoodIn wsX9_doSheet wsX9_remember := goodIn_r _ [66, 27, 67, 68, 69, 4, 70, 85, 86, 87, 88, 89, 90, 91, 92, 93, 94, 95, 96, 97, 98, 99, 100, 101, 102, 103] (by decide +kernel) (by decide +kernel)
set_option maxRecDepth 20000 in
theorem gX9_doSheet_X9_remember : GoodIn wsX9_doSheet (wsV RX9 132 RX9 yX9_remember wsX9_remember) := goodIn_app (goodIn_of _ (by decide +kernel)) ggX9_doSheet_X9_remember
set_option maxRecDepth 20000 in
theorem ggX9_doSheet_X9_writesSheet : GoodIn wsX9_doSheet wsX9_writesSheet := goodIn_r _ [74, 1, 14, 27, 40, 41, 42, 4, 43, 44, 45, 46, 47, 75, 76, 77, 78, 52, 53, 54, 85, 86, 87, 88, 89, 90, 91, 92, 93, 94, 95, 96, 97, 98, 99, 100, 101, 102, 103] (by decide +kernel) (by decide +kernel)
set_option maxRecDepth 20000 in
theorem gX9_doSheet_X9_writesSheet : GoodIn wsX9_doSheet (wsV RX9 163 RX9 yX9_writesSheet wsX9_writesSheet) := goodIn_app (goodIn_of _ (by decide +kernel)) ggX9_doSheet_X9_writesSheet
set_option maxRecDepth 20000 in
theorem ggX9_doSheet_X9_acted : GoodIn wsX9_doSheet wsX9_acted := goodIn_r _ [82, 83, 84, 67, 85, 86, 87, 88, 89, 90, 91, 92, 93, 94, 95, 96, 97, 98, 99, 100, 101, 102, 103] (by decide +kernel) (by decide +kernel)
set_option maxRecDepth 20000 in
theorem gX9_doSheet_X9_acted : GoodIn wsX9_doSheet (wsV RX9 135 RX9 yX9_acted wsX9_acted) := goodIn_app (goodIn_of _ (by decide +kernel)) ggX9_doSheet_X9_acted
theorem dX9_doSheet_0 : decode cX9_doSheet 0 = .ok (.iload_n 1, 1) := by decide +kernel
theorem dX9_doSheet_1 : decode cX9_doSheet 1 = .ok (.invokestatic 157, 3) := by decide +kernel
theorem dX9_doSheet_4 : decode cX9_doSheet 4 = .ok (.ifCond .ne 6, 3) := by decide +kernel
theorem dX9_doSheet_7 : decode cX9_doSheet 7 = .ok (.bipush (-2), 2) := by decide +kernel
theorem dX9_doSheet_9 : decode cX9_doSheet 9 = .ok (.ireturn, 1) := by decide +kernel
theorem dX9_doSheet_10 : decode cX9_doSheet 10 = .ok (.aload_n 0, 1) := by decide +kernel
theorem dX9_doSheet_11 : decode cX9_doSheet 11 = .ok (.iload_n 1, 1) := by decide +kernel
theorem dX9_doSheet_12 : decode cX9_doSheet 12 = .ok (.invokevirtual 160, 3) := by decide +kernel
theorem dX9_doSheet_15 : decode cX9_doSheet 15 = .ok (.aload_n 0, 1) := by decide +kernel
theorem dX9_doSheet_16 : decode cX9_doSheet 16 = .ok (.getfield 93, 3) := by decide +kernel
theorem dX9_doSheet_19 : decode cX9_doSheet 19 = .ok (.ifCond .ne 6, 3) := by decide +kernel
theorem dX9_doSheet_22 : decode cX9_doSheet 22 = .ok (.bipush (-5), 2) := by decide +kernel
theorem dX9_doSheet_24 : decode cX9_doSheet 24 = .ok (.ireturn, 1) := by decide +kernel
theorem dX9_doSheet_25 : decode cX9_doSheet 25 = .ok (.aload_n 0, 1) := by decide +kernel
theorem dX9_doSheet_26 : decode cX9_doSheet 26 = .ok (.invokevirtual 132, 3) := by decide +kernel
theorem dX9_doSheet_29 : decode cX9_doSheet 29 = .ok (.aload_n 0, 1) := by decide +kernel
theorem dX9_doSheet_30 : decode cX9_doSheet 30 = .ok (.invokevirtual 163, 3) := by decide +kernel
theorem dX9_doSheet_33 : decode cX9_doSheet 33 = .ok (.aload_n 0, 1) := by decide +kernel
theorem dX9_doSheet_34 : decode cX9_doSheet 34 = .ok (.aload_n 0, 1) := by decide +kernel
theorem dX9_doSheet_35 : decode cX9_doSheet 35 = .ok (.getfield 93, 3) := by decide +kernel
theorem dX9_doSheet_38 : decode cX9_doSheet 38 = .ok (.invokevirtual 135, 3) := by decide +kernel
theorem dX9_doSheet_41 : decode cX9_doSheet 41 = .ok (.ireturn, 1) := by decide +kernel
theorem dX9_undo_0 : decode cX9_undo 0 = .ok (.aload_n 0, 1) := by decide +kernel
theorem dX9_undo_1 : decode cX9_undo 1 = .ok (.getfield 53, 3) := by decide +kernel
theorem dX9_undo_4 : decode cX9_undo 4 = .ok (.ifCond .ne 6, 3) := by decide +kernel
theorem dX9_undo_7 : decode cX9_undo 7 = .ok (.bipush (-5), 2) := by decide +kernel
theorem dX9_undo_9 : decode cX9_undo 9 = .ok (.ireturn, 1) := by decide +kernel
theorem dX9_undo_10 : decode cX9_undo 10 = .ok (.aload_n 0, 1) := by decide +kernel
theorem dX9_undo_11 : decode cX9_undo 11 = .ok (.dup, 1) := by decide +kernel
theorem dX9_undo_12 : decode cX9_undo 12 = .ok (.getfield 53, 3) := by decide +kernel
theorem dX9_undo_15 : decode cX9_undo 15 = .ok (.iconst 1, 1) := by decide +kernel
theorem dX9_undo_16 : decode cX9_undo 16 = .ok (.isub, 1) := by decide +kernel
theorem dX9_undo_17 : decode cX9_undo 17 = .ok (.putfield 53, 3) := by decide +kernel
theorem dX9_undo_20 : decode cX9_undo 20 = .ok (.iconst 0, 1) := by decide +kernel
theorem dX9_undo_21 : decode cX9_undo 21 = .ok (.istore_n 1, 1) := by decide +kernel
theorem dX9_undo_22 : decode cX9_undo 22 = .ok (.iload_n 1, 1) := by decide +kernel
theorem dX9_undo_23 : decode cX9_undo 23 = .ok (.sipush 1730, 3) := by decide +kernel
theorem dX9_undo_26 : decode cX9_undo 26 = .ok (.if_icmp .ge 30, 3) := by decide +kernel
theorem dX9_undo_29 : decode cX9_undo 29 = .ok (.aload_n 0, 1) := by decide +kernel
theorem dX9_undo_30 : decode cX9_undo 30 = .ok (.getfield 7, 3) := by decide +kernel
theorem dX9_undo_33 : decode cX9_undo 33 = .ok (.iload_n 1, 1) := by decide +kernel
theorem dX9_undo_34 : decode cX9_undo 34 = .ok (.aload_n 0, 1) := by decide +kernel
theorem dX9_undo_35 : decode cX9_undo 35 = .ok (.getfield 19, 3) := by decide +kernel
theorem dX9_undo_38 : decode cX9_undo 38 = .ok (.sipush 1730, 3) := by decide +kernel
theorem dX9_undo_41 : decode cX9_undo 41 = .ok (.aload_n 0, 1) := by decide +kernel
theorem dX9_undo_42 : decode cX9_undo 42 = .ok (.getfield 53, 3) := by decide +kernel
theorem dX9_undo_45 : decode cX9_undo 45 = .ok (.imul, 1) := by decide +kernel
theorem dX9_undo_46 : decode cX9_undo 46 = .ok (.iload_n 1, 1) := by decide +kernel
theorem dX9_undo_47 : decode cX9_undo 47 = .ok (.iadd, 1) := by decide +kernel
theorem dX9_undo_48 : decode cX9_undo 48 = .ok (.iaload, 1) := by decide +kernel
theorem dX9_undo_49 : decode cX9_undo 49 = .ok (.iastore, 1) := by decide +kernel
theorem dX9_undo_50 : decode cX9_undo 50 = .ok (.iinc 1 1, 3) := by decide +kernel
theorem dX9_undo_53 : decode cX9_undo 53 = .ok (.goto (-31), 3) := by decide +kernel
theorem dX9_undo_56 : decode cX9_undo 56 = .ok (.aload_n 0, 1) := by decide +kernel
theorem dX9_undo_57 : decode cX9_undo 57 = .ok (.getfield 53, 3) := by decide +kernel
theorem dX9_undo_60 : decode cX9_undo 60 = .ok (.ireturn, 1) := by decide +kernel
set_option maxRecDepth 20000 in
theorem ggX9_keep_X9_copy : GoodIn wsX9_keep wsX9_copy := goodIn_r _ [7] (by decide +kernel) (by decide +kernel)
set_option maxRecDepth 20000 in
theorem gX9_keep_X9_copy : GoodIn wsX9_keep (va_wsS RX9 49 yX9_copy wsX9_copy) := goodIn_app (goodIn_of _ (by decide +kernel)) ggX9_keep_X9_copy
theorem dX9_keep_0 : decode cX9_keep 0 = .ok (.aload_n 0, 1) := by decide +kernel
theorem dX9_keep_1 : decode cX9_keep 1 = .ok (.getfield 7, 3) := by decide +kernel
theorem dX9_keep_4 : decode cX9_keep 4 = .ok (.aload_n 0, 1) := by decide +kernel
theorem dX9_keep_5 : decode cX9_keep 5 = .ok (.getfield 22, 3) := by decide +kernel
theorem dX9_keep_8 : decode cX9_keep 8 = .ok (.invokestatic 49, 3) := by decide +kernel
theorem dX9_keep_11 : decode cX9_keep 11 = .ok (.aload_n 0, 1) := by decide +kernel
theorem dX9_keep_12 : decode cX9_keep 12 = .ok (.iconst 1, 1) := by decide +kernel
theorem dX9_keep_13 : decode cX9_keep 13 = .ok (.putfield 166, 3) := by decide +kernel
theorem dX9_keep_16 : decode cX9_keep 16 = .ok (.aload_n 0, 1) := by decide +kernel
theorem dX9_keep_17 : decode cX9_keep 17 = .ok (.getfield 7, 3) := by decide +kernel
theorem dX9_keep_20 : decode cX9_keep 20 = .ok (.iconst 5, 1) := by decide +kernel
theorem dX9_keep_21 : decode cX9_keep 21 = .ok (.iaload, 1) := by decide +kernel
theorem dX9_keep_22 : decode cX9_keep 22 = .ok (.ireturn, 1) := by decide +kernel
set_option maxRecDepth 20000 in
theorem ggX9_restore_X9_remember : GoodIn wsX9_restore wsX9_remember := goodIn_r _ [8, 3, 9, 10, 11, 7, 12, 19, 20, 21, 22, 23, 24, 25, 26, 27, 28, 29, 30, 31, 32, 33, 34, 35, 36, 37] (by decide +kernel) (by decide +kernel)
set_option maxRecDepth 20000 in
theorem gX9_restore_X9_remember : GoodIn wsX9_restore (wsV RX9 132 RX9 yX9_remember wsX9_remember) := goodIn_app (goodIn_of _ (by decide +kernel)) ggX9_restore_X9_remember
set_option maxRecDepth 20000 in
theorem ggX9_restore_X9_copy : GoodIn wsX9_restore wsX9_copy := goodIn_r _ [12] (by decide +kernel) (by decide +kernel)
set_option maxRecDepth 20000 in
theorem gX9_restore_X9_copy : GoodIn wsX9_restore (va_wsS RX9 49 yX9_copy wsX9_copy) := goodIn_app (goodIn_of _ (by decide +kernel)) ggX9_restore_X9_copy
set_option maxRecDepth 20000 in
theorem ggX9_restore_X9_acted : GoodIn wsX9_restore wsX9_acted := goodIn_r _ [16, 17, 18, 9, 19, 20, 21, 22, 23, 24, 25, 26, 27, 28, 29, 30, 31, 32, 33, 34, 35, 36, 37] (by decide +kernel) (by decide +kernel)
set_option maxRecDepth 20000 in
theorem gX9_restore_X9_acted : GoodIn wsX9_restore (wsV RX9 135 RX9 yX9_acted wsX9_acted) := goodIn_app (goodIn_of _ (by decide +kernel)) ggX9_restore_X9_acted
theorem dX9_restore_0 : decode cX9_restore 0 = .ok (.aload_n 0, 1) := by decide +kernel
theorem dX9_restore_1 : decode cX9_restore 1 = .ok (.getfield 166, 3) := by decide +kernel
theorem dX9_restore_4 : decode cX9_restore 4 = .ok (.ifCond .ne 6, 3) := by decide +kernel
theorem dX9_restore_7 : decode cX9_restore 7 = .ok (.bipush (-5), 2) := by decide +kernel
theorem dX9_restore_9 : decode cX9_restore 9 = .ok (.ireturn, 1) := by decide +kernel
theorem dX9_restore_10 : decode cX9_restore 10 = .ok (.aload_n 0, 1) := by decide +kernel
theorem dX9_restore_11 : decode cX9_restore 11 = .ok (.invokevirtual 132, 3) := by decide +kernel
theorem dX9_restore_14 : decode cX9_restore 14 = .ok (.aload_n 0, 1) := by decide +kernel
theorem dX9_restore_15 : decode cX9_restore 15 = .ok (.getfield 22, 3) := by decide +kernel
theorem dX9_restore_18 : decode cX9_restore 18 = .ok (.aload_n 0, 1) := by decide +kernel
theorem dX9_restore_19 : decode cX9_restore 19 = .ok (.getfield 7, 3) := by decide +kernel
theorem dX9_restore_22 : decode cX9_restore 22 = .ok (.invokestatic 49, 3) := by decide +kernel
theorem dX9_restore_25 : decode cX9_restore 25 = .ok (.aload_n 0, 1) := by decide +kernel
theorem dX9_restore_26 : decode cX9_restore 26 = .ok (.aload_n 0, 1) := by decide +kernel
theorem dX9_restore_27 : decode cX9_restore 27 = .ok (.getfield 7, 3) := by decide +kernel
theorem dX9_restore_30 : decode cX9_restore 30 = .ok (.iconst 5, 1) := by decide +kernel
theorem dX9_restore_31 : decode cX9_restore 31 = .ok (.iaload, 1) := by decide +kernel
theorem dX9_restore_32 : decode cX9_restore 32 = .ok (.invokevirtual 135, 3) := by decide +kernel
theorem dX9_restore_35 : decode cX9_restore 35 = .ok (.ireturn, 1) := by decide +kernel
set_option maxRecDepth 20000 in
theorem ggX9_ofPart_X9_needOf : GoodIn wsX9_ofPart wsX9_needOf := goodIn_r _ [6, 1, 36, 37, 38, 39, 40, 41, 42, 43, 44, 45, 46, 47, 48, 49, 50, 51, 52, 53, 54] (by decide +kernel) (by decide +kernel)
set_option maxRecDepth 20000 in
theorem gX9_ofPart_X9_needOf : GoodIn wsX9_ofPart (wsV RX9 90 RX9 yX9_needOf wsX9_needOf) := goodIn_app (goodIn_of _ (by decide +kernel)) ggX9_ofPart_X9_needOf
set_option maxRecDepth 20000 in
theorem ggX9_ofPart_X9_wordsWith : GoodIn wsX9_ofPart wsX9_wordsWith := goodIn_r _ [10, 1, 11, 12, 13, 5, 14, 15, 16, 17, 18, 19, 20, 21, 22, 23, 24, 25, 26, 27, 28, 29, 30, 31, 32, 33, 34, 35, 36, 37, 38, 39, 40, 41, 42, 43, 44, 45, 46, 47, 48, 49, 50, 51, 52, 53, 54] (by decide +kernel) (by decide +kernel)
set_option maxRecDepth 20000 in
theorem gX9_ofPart_X9_wordsWith : GoodIn wsX9_ofPart (wsV RX9 169 RX9 yX9_wordsWith wsX9_wordsWith) := goodIn_app (goodIn_of _ (by decide +kernel)) ggX9_ofPart_X9_wordsWith
theorem dX9_ofPart_0 : decode cX9_ofPart 0 = .ok (.iload_n 2, 1) := by decide +kernel
theorem dX9_ofPart_1 : decode cX9_ofPart 1 = .ok (.tableswitch 64 0 3 #[31, 41, 52, 58], 31) := by decide +kernel
theorem dX9_ofPart_32 : decode cX9_ofPart 32 = .ok (.aload_n 0, 1) := by decide +kernel
theorem dX9_ofPart_33 : decode cX9_ofPart 33 = .ok (.getfield 7, 3) := by decide +kernel
theorem dX9_ofPart_36 : decode cX9_ofPart 36 = .ok (.bipush 6, 2) := by decide +kernel
theorem dX9_ofPart_38 : decode cX9_ofPart 38 = .ok (.iload_n 1, 1) := by decide +kernel
theorem dX9_ofPart_39 : decode cX9_ofPart 39 = .ok (.iadd, 1) := by decide +kernel
theorem dX9_ofPart_40 : decode cX9_ofPart 40 = .ok (.iaload, 1) := by decide +kernel
theorem dX9_ofPart_41 : decode cX9_ofPart 41 = .ok (.ireturn, 1) := by decide +kernel
theorem dX9_ofPart_42 : decode cX9_ofPart 42 = .ok (.aload_n 0, 1) := by decide +kernel
theorem dX9_ofPart_43 : decode cX9_ofPart 43 = .ok (.getfield 7, 3) := by decide +kernel
theorem dX9_ofPart_46 : decode cX9_ofPart 46 = .ok (.sipush 708, 3) := by decide +kernel
theorem dX9_ofPart_49 : decode cX9_ofPart 49 = .ok (.iload_n 1, 1) := by decide +kernel
theorem dX9_ofPart_50 : decode cX9_ofPart 50 = .ok (.iadd, 1) := by decide +kernel
theorem dX9_ofPart_51 : decode cX9_ofPart 51 = .ok (.iaload, 1) := by decide +kernel
theorem dX9_ofPart_52 : decode cX9_ofPart 52 = .ok (.ireturn, 1) := by decide +kernel
theorem dX9_ofPart_53 : decode cX9_ofPart 53 = .ok (.aload_n 0, 1) := by decide +kernel
theorem dX9_ofPart_54 : decode cX9_ofPart 54 = .ok (.iload_n 1, 1) := by decide +kernel
theorem dX9_ofPart_55 : decode cX9_ofPart 55 = .ok (.invokevirtual 90, 3) := by decide +kernel
theorem dX9_ofPart_58 : decode cX9_ofPart 58 = .ok (.ireturn, 1) := by decide +kernel
theorem dX9_ofPart_59 : decode cX9_ofPart 59 = .ok (.aload_n 0, 1) := by decide +kernel
theorem dX9_ofPart_60 : decode cX9_ofPart 60 = .ok (.iload_n 1, 1) := by decide +kernel
theorem dX9_ofPart_61 : decode cX9_ofPart 61 = .ok (.invokevirtual 169, 3) := by decide +kernel
theorem dX9_ofPart_64 : decode cX9_ofPart 64 = .ok (.ireturn, 1) := by decide +kernel
theorem dX9_ofPart_65 : decode cX9_ofPart 65 = .ok (.bipush (-2), 2) := by decide +kernel
theorem dX9_ofPart_67 : decode cX9_ofPart 67 = .ok (.ireturn, 1) := by decide +kernel
set_option maxRecDepth 20000 in
theorem ggX9_letter_X9_in : GoodIn wsX9_letter wsX9_in := goodIn_r _ [6] (by decide +kernel) (by decide +kernel)
set_option maxRecDepth 20000 in
theorem gX9_letter_X9_in : GoodIn wsX9_letter (va_wsS RX9 57 yX9_in wsX9_in) := goodIn_app (goodIn_of _ (by decide +kernel)) ggX9_letter_X9_in
set_option maxRecDepth 20000 in
theorem ggX9_letter_X9_ofPart : GoodIn wsX9_letter wsX9_ofPart := goodIn_r _ [10, 11, 12, 13, 14, 5, 15, 16, 17, 18, 19, 20, 21, 22, 23, 24, 25, 26, 27, 28, 29, 30, 31, 32, 33, 34, 35, 36, 37, 38, 39, 40, 41, 42, 43, 44, 45, 46, 47, 48, 49, 50, 51, 52, 53, 54, 55, 56, 57, 58, 59, 60, 61, 62, 63] (by decide +kernel) (by decide +kernel)
set_option maxRecDepth 20000 in
theorem gX9_letter_X9_ofPart : GoodIn wsX9_letter (wsV RX9 172 RX9 yX9_ofPart wsX9_ofPart) := goodIn_app (goodIn_of _ (by decide +kernel)) ggX9_letter_X9_ofPart
theorem dX9_letter_0 : decode cX9_letter 0 = .ok (.iload_n 1, 1) := by decide +kernel
theorem dX9_letter_1 : decode cX9_letter 1 = .ok (.i2l, 1) := by decide +kernel
theorem dX9_letter_2 : decode cX9_letter 2 = .ok (.ldc2_w 116, 3) := by decide +kernel
theorem dX9_letter_5 : decode cX9_letter 5 = .ok (.ldc2_w 118, 3) := by decide +kernel
theorem dX9_letter_8 : decode cX9_letter 8 = .ok (.invokestatic 57, 3) := by decide +kernel
theorem dX9_letter_11 : decode cX9_letter 11 = .ok (.ifCond .eq 15, 3) := by decide +kernel
theorem dX9_letter_14 : decode cX9_letter 14 = .ok (.aload_n 0, 1) := by decide +kernel
theorem dX9_letter_15 : decode cX9_letter 15 = .ok (.iload_n 1, 1) := by decide +kernel
theorem dX9_letter_16 : decode cX9_letter 16 = .ok (.bipush 97, 2) := by decide +kernel
theorem dX9_letter_18 : decode cX9_letter 18 = .ok (.isub, 1) := by decide +kernel
theorem dX9_letter_19 : decode cX9_letter 19 = .ok (.iload_n 2, 1) := by decide +kernel
theorem dX9_letter_20 : decode cX9_letter 20 = .ok (.invokevirtual 172, 3) := by decide +kernel
theorem dX9_letter_23 : decode cX9_letter 23 = .ok (.goto 4, 3) := by decide +kernel
theorem dX9_letter_26 : decode cX9_letter 26 = .ok (.iconst (-1), 1) := by decide +kernel
theorem dX9_letter_27 : decode cX9_letter 27 = .ok (.ireturn, 1) := by decide +kernel
set_option maxRecDepth 20000 in
theorem ggX9_join_X9_in : GoodIn wsX9_join wsX9_in := goodIn_r _ [6] (by decide +kernel) (by decide +kernel)
set_option maxRecDepth 20000 in
theorem gX9_join_X9_in : GoodIn wsX9_join (va_wsS RX9 57 yX9_in wsX9_in) := goodIn_app (goodIn_of _ (by decide +kernel)) ggX9_join_X9_in
set_option maxRecDepth 20000 in
theorem ggX9_join_X9_joinOf : GoodIn wsX9_join wsX9_joinOf := goodIn_r _ [9] (by decide +kernel) (by decide +kernel)
set_option maxRecDepth 20000 in
theorem gX9_join_X9_joinOf : GoodIn wsX9_join (va_wsS RX9 76 yX9_joinOf wsX9_joinOf) := goodIn_app (goodIn_of _ (by decide +kernel)) ggX9_join_X9_joinOf
set_option maxRecDepth 20000 in
theorem ggX9_join_X9_ofPart : GoodIn wsX9_join wsX9_ofPart := goodIn_r _ [13, 14, 15, 16, 17, 5, 18, 19, 20, 21, 22, 23, 24, 25, 26, 27, 28, 29, 30, 31, 32, 33, 34, 35, 36, 37, 38, 39, 40, 41, 42, 43, 44, 7, 8, 9, 45, 46, 47, 48, 49, 50, 51, 52, 53, 54, 55, 56, 57, 58, 59, 60, 61, 62, 63] (by decide +kernel) (by decide +kernel)
set_option maxRecDepth 20000 in
theorem gX9_join_X9_ofPart : GoodIn wsX9_join (wsV RX9 172 RX9 yX9_ofPart wsX9_ofPart) := goodIn_app (goodIn_of _ (by decide +kernel)) ggX9_join_X9_ofPart
theorem dX9_join_0 : decode cX9_join 0 = .ok (.iload_n 1, 1) := by decide +kernel
theorem dX9_join_1 : decode cX9_join 1 = .ok (.i2l, 1) := by decide +kernel
theorem dX9_join_2 : decode cX9_join 2 = .ok (.ldc2_w 116, 3) := by decide +kernel
theorem dX9_join_5 : decode cX9_join 5 = .ok (.ldc2_w 118, 3) := by decide +kernel
theorem dX9_join_8 : decode cX9_join 8 = .ok (.invokestatic 57, 3) := by decide +kernel
theorem dX9_join_11 : decode cX9_join 11 = .ok (.ifCond .eq 36, 3) := by decide +kernel
theorem dX9_join_14 : decode cX9_join 14 = .ok (.iload_n 2, 1) := by decide +kernel
theorem dX9_join_15 : decode cX9_join 15 = .ok (.i2l, 1) := by decide +kernel
theorem dX9_join_16 : decode cX9_join 16 = .ok (.ldc2_w 116, 3) := by decide +kernel
theorem dX9_join_19 : decode cX9_join 19 = .ok (.ldc2_w 118, 3) := by decide +kernel
theorem dX9_join_22 : decode cX9_join 22 = .ok (.invokestatic 57, 3) := by decide +kernel
theorem dX9_join_25 : decode cX9_join 25 = .ok (.ifCond .eq 22, 3) := by decide +kernel
theorem dX9_join_28 : decode cX9_join 28 = .ok (.aload_n 0, 1) := by decide +kernel
theorem dX9_join_29 : decode cX9_join 29 = .ok (.iload_n 1, 1) := by decide +kernel
theorem dX9_join_30 : decode cX9_join 30 = .ok (.bipush 97, 2) := by decide +kernel
theorem dX9_join_32 : decode cX9_join 32 = .ok (.isub, 1) := by decide +kernel
theorem dX9_join_33 : decode cX9_join 33 = .ok (.iload_n 2, 1) := by decide +kernel
theorem dX9_join_34 : decode cX9_join 34 = .ok (.bipush 97, 2) := by decide +kernel
theorem dX9_join_36 : decode cX9_join 36 = .ok (.isub, 1) := by decide +kernel
theorem dX9_join_37 : decode cX9_join 37 = .ok (.invokestatic 76, 3) := by decide +kernel
theorem dX9_join_40 : decode cX9_join 40 = .ok (.iload_n 3, 1) := by decide +kernel
theorem dX9_join_41 : decode cX9_join 41 = .ok (.invokevirtual 172, 3) := by decide +kernel
theorem dX9_join_44 : decode cX9_join 44 = .ok (.goto 4, 3) := by decide +kernel
theorem dX9_join_47 : decode cX9_join 47 = .ok (.iconst (-1), 1) := by decide +kernel
theorem dX9_join_48 : decode cX9_join 48 = .ok (.ireturn, 1) := by decide +kernel
set_option maxRecDepth 20000 in
theorem ggX9_needOfWord_X9_findsParts : GoodIn wsX9_needOfWord wsX9_findsParts := goodIn_r _ [7, 1, 8, 9, 10, 6, 11, 12, 13, 14, 15, 16, 17, 18, 19, 20, 2, 21, 22, 23, 28, 29, 30, 31, 32, 33, 34, 35, 36, 37, 38, 39, 40, 41, 42, 43, 44, 45, 46] (by decide +kernel) (by decide +kernel)
set_option maxRecDepth 20000 in
theorem gX9_needOfWord_X9_findsParts : GoodIn wsX9_needOfWord (wsV RX9 79 RX9 yX9_findsParts wsX9_findsParts) := goodIn_app (goodIn_of _ (by decide +kernel)) ggX9_needOfWord_X9_findsParts
set_option maxRecDepth 20000 in
theorem ggX9_needOfWord_X9_needOf : GoodIn wsX9_needOfWord wsX9_needOf := goodIn_r _ [27, 12, 28, 29, 30, 31, 32, 33, 34, 35, 36, 37, 38, 39, 40, 41, 42, 43, 44, 45, 46] (by decide +kernel) (by decide +kernel)
set_option maxRecDepth 20000 in
theorem gX9_needOfWord_X9_needOf : GoodIn wsX9_needOfWord (wsV RX9 90 RX9 yX9_needOf wsX9_needOf) := goodIn_app (goodIn_of _ (by decide +kernel)) ggX9_needOfWord_X9_needOf
theorem dX9_needOfWord_0 : decode cX9_needOfWord 0 = .ok (.aload_n 0, 1) := by decide +kernel
theorem dX9_needOfWord_1 : decode cX9_needOfWord 1 = .ok (.iload_n 1, 1) := by decide +kernel
theorem dX9_needOfWord_2 : decode cX9_needOfWord 2 = .ok (.invokevirtual 79, 3) := by decide +kernel
theorem dX9_needOfWord_5 : decode cX9_needOfWord 5 = .ok (.iconst 0, 1) := by decide +kernel
theorem dX9_needOfWord_6 : decode cX9_needOfWord 6 = .ok (.istore_n 2, 1) := by decide +kernel
theorem dX9_needOfWord_7 : decode cX9_needOfWord 7 = .ok (.iconst 0, 1) := by decide +kernel
theorem dX9_needOfWord_8 : decode cX9_needOfWord 8 = .ok (.istore_n 3, 1) := by decide +kernel
theorem dX9_needOfWord_9 : decode cX9_needOfWord 9 = .ok (.iload_n 3, 1) := by decide +kernel
theorem dX9_needOfWord_10 : decode cX9_needOfWord 10 = .ok (.aload_n 0, 1) := by decide +kernel
theorem dX9_needOfWord_11 : decode cX9_needOfWord 11 = .ok (.getfield 61, 3) := by decide +kernel
theorem dX9_needOfWord_14 : decode cX9_needOfWord 14 = .ok (.if_icmp .ge 22, 3) := by decide +kernel
theorem dX9_needOfWord_17 : decode cX9_needOfWord 17 = .ok (.iload_n 2, 1) := by decide +kernel
theorem dX9_needOfWord_18 : decode cX9_needOfWord 18 = .ok (.aload_n 0, 1) := by decide +kernel
theorem dX9_needOfWord_19 : decode cX9_needOfWord 19 = .ok (.aload_n 0, 1) := by decide +kernel
theorem dX9_needOfWord_20 : decode cX9_needOfWord 20 = .ok (.getfield 25, 3) := by decide +kernel
theorem dX9_needOfWord_23 : decode cX9_needOfWord 23 = .ok (.iload_n 3, 1) := by decide +kernel
theorem dX9_needOfWord_24 : decode cX9_needOfWord 24 = .ok (.iaload, 1) := by decide +kernel
theorem dX9_needOfWord_25 : decode cX9_needOfWord 25 = .ok (.invokevirtual 90, 3) := by decide +kernel
theorem dX9_needOfWord_28 : decode cX9_needOfWord 28 = .ok (.iadd, 1) := by decide +kernel
theorem dX9_needOfWord_29 : decode cX9_needOfWord 29 = .ok (.istore_n 2, 1) := by decide +kernel
theorem dX9_needOfWord_30 : decode cX9_needOfWord 30 = .ok (.iinc 3 1, 3) := by decide +kernel
theorem dX9_needOfWord_33 : decode cX9_needOfWord 33 = .ok (.goto (-24), 3) := by decide +kernel
theorem dX9_needOfWord_36 : decode cX9_needOfWord 36 = .ok (.iload_n 2, 1) := by decide +kernel
theorem dX9_needOfWord_37 : decode cX9_needOfWord 37 = .ok (.ireturn, 1) := by decide +kernel
set_option maxRecDepth 20000 in
theorem ggX9_partsOf_X9_findsParts : GoodIn wsX9_partsOf wsX9_findsParts := goodIn_r _ [7, 1, 8, 9, 10, 6, 11, 12, 13, 14, 15, 16, 17, 18, 19, 20, 2, 21, 22, 23, 28, 29, 30, 31, 32, 33, 34, 35, 36, 37, 38, 39, 40, 41, 42, 43, 44, 45, 46] (by decide +kernel) (by decide +kernel)
set_option maxRecDepth 20000 in
theorem gX9_partsOf_X9_findsParts : GoodIn wsX9_partsOf (wsV RX9 79 RX9 yX9_findsParts wsX9_findsParts) := goodIn_app (goodIn_of _ (by decide +kernel)) ggX9_partsOf_X9_findsParts
set_option maxRecDepth 20000 in
theorem ggX9_partsOf_X9_isUntried : GoodIn wsX9_partsOf wsX9_isUntried := goodIn_r _ [27, 12, 28, 29, 30, 31, 32, 33, 34, 35, 36, 37, 38, 39, 40, 41, 42, 43, 44, 45, 46] (by decide +kernel) (by decide +kernel)
set_option maxRecDepth 20000 in
theorem gX9_partsOf_X9_isUntried : GoodIn wsX9_partsOf (wsV RX9 86 RX9 yX9_isUntried wsX9_isUntried) := goodIn_app (goodIn_of _ (by decide +kernel)) ggX9_partsOf_X9_isUntried
theorem dX9_partsOf_0 : decode cX9_partsOf 0 = .ok (.aload_n 0, 1) := by decide +kernel
theorem dX9_partsOf_1 : decode cX9_partsOf 1 = .ok (.iload_n 1, 1) := by decide +kernel
theorem dX9_partsOf_2 : decode cX9_partsOf 2 = .ok (.invokevirtual 79, 3) := by decide +kernel
theorem dX9_partsOf_5 : decode cX9_partsOf 5 = .ok (.iconst 0, 1) := by decide +kernel
theorem dX9_partsOf_6 : decode cX9_partsOf 6 = .ok (.istore_n 3, 1) := by decide +kernel
theorem dX9_partsOf_7 : decode cX9_partsOf 7 = .ok (.iconst 0, 1) := by decide +kernel
theorem dX9_partsOf_8 : decode cX9_partsOf 8 = .ok (.istore 4, 2) := by decide +kernel
theorem dX9_partsOf_10 : decode cX9_partsOf 10 = .ok (.iload 4, 2) := by decide +kernel
theorem dX9_partsOf_12 : decode cX9_partsOf 12 = .ok (.aload_n 0, 1) := by decide +kernel
theorem dX9_partsOf_13 : decode cX9_partsOf 13 = .ok (.getfield 61, 3) := by decide +kernel
theorem dX9_partsOf_16 : decode cX9_partsOf 16 = .ok (.if_icmp .ge 35, 3) := by decide +kernel
theorem dX9_partsOf_19 : decode cX9_partsOf 19 = .ok (.iload_n 3, 1) := by decide +kernel
theorem dX9_partsOf_20 : decode cX9_partsOf 20 = .ok (.iload_n 2, 1) := by decide +kernel
theorem dX9_partsOf_21 : decode cX9_partsOf 21 = .ok (.ifCond .eq 17, 3) := by decide +kernel
theorem dX9_partsOf_24 : decode cX9_partsOf 24 = .ok (.aload_n 0, 1) := by decide +kernel
theorem dX9_partsOf_25 : decode cX9_partsOf 25 = .ok (.aload_n 0, 1) := by decide +kernel
theorem dX9_partsOf_26 : decode cX9_partsOf 26 = .ok (.getfield 25, 3) := by decide +kernel
theorem dX9_partsOf_29 : decode cX9_partsOf 29 = .ok (.iload 4, 2) := by decide +kernel
theorem dX9_partsOf_31 : decode cX9_partsOf 31 = .ok (.iaload, 1) := by decide +kernel
theorem dX9_partsOf_32 : decode cX9_partsOf 32 = .ok (.invokevirtual 86, 3) := by decide +kernel
theorem dX9_partsOf_35 : decode cX9_partsOf 35 = .ok (.ifCond .eq 7, 3) := by decide +kernel
theorem dX9_partsOf_38 : decode cX9_partsOf 38 = .ok (.iconst 1, 1) := by decide +kernel
theorem dX9_partsOf_39 : decode cX9_partsOf 39 = .ok (.goto 4, 3) := by decide +kernel
theorem dX9_partsOf_42 : decode cX9_partsOf 42 = .ok (.iconst 0, 1) := by decide +kernel
theorem dX9_partsOf_43 : decode cX9_partsOf 43 = .ok (.iadd, 1) := by decide +kernel
theorem dX9_partsOf_44 : decode cX9_partsOf 44 = .ok (.istore_n 3, 1) := by decide +kernel
theorem dX9_partsOf_45 : decode cX9_partsOf 45 = .ok (.iinc 4 1, 3) := by decide +kernel
theorem dX9_partsOf_48 : decode cX9_partsOf 48 = .ok (.goto (-38), 3) := by decide +kernel
theorem dX9_partsOf_51 : decode cX9_partsOf 51 = .ok (.iload_n 3, 1) := by decide +kernel
theorem dX9_partsOf_52 : decode cX9_partsOf 52 = .ok (.ireturn, 1) := by decide +kernel
set_option maxRecDepth 20000 in
theorem ggX9_firstGain_X9_coversNone : GoodIn wsX9_firstGain wsX9_coversNone := goodIn_r _ [5, 6, 41, 42, 43, 44, 45, 46, 47, 48, 49, 50, 51, 52, 53, 54, 55, 56, 57, 58, 59] (by decide +kernel) (by decide +kernel)
set_option maxRecDepth 20000 in
theorem gX9_firstGain_X9_coversNone : GoodIn wsX9_firstGain (wsV RX9 102 RX9 yX9_coversNone wsX9_coversNone) := goodIn_app (goodIn_of _ (by decide +kernel)) ggX9_firstGain_X9_coversNone
set_option maxRecDepth 20000 in
theorem ggX9_firstGain_X9_gainOf : GoodIn wsX9_firstGain wsX9_gainOf := goodIn_r _ [10, 11, 12, 13, 6, 14, 15, 16, 4, 17, 18, 19, 20, 21, 22, 23, 24, 25, 26, 27, 28, 29, 30, 31, 32, 33, 34, 35, 36, 37, 38, 39, 40, 41, 42, 43, 44, 45, 46, 47, 48, 49, 50, 51, 52, 53, 54, 55, 56, 57, 58, 59] (by decide +kernel) (by decide +kernel)
set_option maxRecDepth 20000 in
theorem gX9_firstGain_X9_gainOf : GoodIn wsX9_firstGain (wsV RX9 99 RX9 yX9_gainOf wsX9_gainOf) := goodIn_app (goodIn_of _ (by decide +kernel)) ggX9_firstGain_X9_gainOf
theorem dX9_firstGain_0 : decode cX9_firstGain 0 = .ok (.aload_n 0, 1) := by decide +kernel
theorem dX9_firstGain_1 : decode cX9_firstGain 1 = .ok (.invokevirtual 102, 3) := by decide +kernel
theorem dX9_firstGain_4 : decode cX9_firstGain 4 = .ok (.aload_n 0, 1) := by decide +kernel
theorem dX9_firstGain_5 : decode cX9_firstGain 5 = .ok (.iload_n 1, 1) := by decide +kernel
theorem dX9_firstGain_6 : decode cX9_firstGain 6 = .ok (.invokevirtual 99, 3) := by decide +kernel
theorem dX9_firstGain_9 : decode cX9_firstGain 9 = .ok (.ireturn, 1) := by decide +kernel
set_option maxRecDepth 20000 in
theorem ggX9_word_X9_isWord : GoodIn wsX9_word wsX9_isWord := goodIn_r _ [5, 6, 7, 8, 4, 9, 60, 61, 62, 63, 64, 65, 66, 67, 68, 69, 70, 71, 72, 73, 74, 75, 76, 77, 78] (by decide +kernel) (by decide +kernel)
set_option maxRecDepth 20000 in
theorem gX9_word_X9_isWord : GoodIn wsX9_word (wsV RX9 152 RX9 yX9_isWord wsX9_isWord) := goodIn_app (goodIn_of _ (by decide +kernel)) ggX9_word_X9_isWord
set_option maxRecDepth 20000 in
theorem ggX9_word_X9_sizeOf : GoodIn wsX9_word wsX9_sizeOf := goodIn_r _ [13, 6, 60, 61, 62, 63, 64, 65, 66, 67, 68, 69, 70, 71, 72, 73, 74, 75, 76, 77, 78] (by decide +kernel) (by decide +kernel)
set_option maxRecDepth 20000 in
theorem gX9_word_X9_sizeOf : GoodIn wsX9_word (wsV RX9 64 RX9 yX9_sizeOf wsX9_sizeOf) := goodIn_app (goodIn_of _ (by decide +kernel)) ggX9_word_X9_sizeOf
set_option maxRecDepth 20000 in
theorem ggX9_word_X9_needOfWord : GoodIn wsX9_word wsX9_needOfWord := goodIn_r _ [17, 18, 19, 20, 21, 22, 4, 23, 10, 11, 12, 13, 6, 24, 25, 26, 27, 28, 29, 30, 31, 32, 33, 34, 35, 36, 37, 38, 60, 61, 62, 63, 64, 65, 66, 67, 68, 69, 70, 71, 72, 73, 74, 75, 76, 77, 78] (by decide +kernel) (by decide +kernel)
set_option maxRecDepth 20000 in
theorem gX9_word_X9_needOfWord : GoodIn wsX9_word (wsV RX9 175 RX9 yX9_needOfWord wsX9_needOfWord) := goodIn_app (goodIn_of _ (by decide +kernel)) ggX9_word_X9_needOfWord
set_option maxRecDepth 20000 in
theorem ggX9_word_X9_partsOf : GoodIn wsX9_word wsX9_partsOf := goodIn_r _ [42, 18, 19, 20, 21, 22, 4, 23, 10, 11, 12, 13, 6, 24, 25, 26, 27, 28, 29, 30, 31, 32, 33, 34, 43, 44, 45, 46, 60, 61, 62, 63, 64, 65, 66, 67, 68, 69, 70, 71, 72, 73, 74, 75, 76, 77, 78] (by decide +kernel) (by decide +kernel)
set_option maxRecDepth 20000 in
theorem gX9_word_X9_partsOf : GoodIn wsX9_word (wsV RX9 178 RX9 yX9_partsOf wsX9_partsOf) := goodIn_app (goodIn_of _ (by decide +kernel)) ggX9_word_X9_partsOf
set_option maxRecDepth 20000 in
theorem ggX9_word_X9_firstGain : GoodIn wsX9_word wsX9_firstGain := goodIn_r _ [50, 51, 52, 53, 4, 54, 55, 56, 57, 58, 59, 18, 19, 6, 20, 21, 22, 23, 10, 11, 12, 13, 24, 25, 26, 27, 28, 29, 30, 31, 32, 33, 34, 43, 44, 45, 46, 35, 36, 37, 38, 60, 61, 62, 63, 64, 65, 66, 67, 68, 69, 70, 71, 72, 73, 74, 75, 76, 77, 78] (by decide +kernel) (by decide +kernel)
set_option maxRecDepth 20000 in
theorem gX9_word_X9_firstGain : GoodIn wsX9_word (wsV RX9 182 RX9 yX9_firstGain wsX9_firstGain) := goodIn_app (goodIn_of _ (by decide +kernel)) ggX9_word_X9_firstGain
theorem dX9_word_0 : decode cX9_word 0 = .ok (.aload_n 0, 1) := by decide +kernel
theorem dX9_word_1 : decode cX9_word 1 = .ok (.iload_n 1, 1) := by decide +kernel
theorem dX9_word_2 : decode cX9_word 2 = .ok (.invokevirtual 152, 3) := by decide +kernel
theorem dX9_word_5 : decode cX9_word 5 = .ok (.ifCond .ne 5, 3) := by decide +kernel
theorem dX9_word_8 : decode cX9_word 8 = .ok (.iconst (-1), 1) := by decide +kernel
theorem dX9_word_9 : decode cX9_word 9 = .ok (.ireturn, 1) := by decide +kernel
theorem dX9_word_10 : decode cX9_word 10 = .ok (.iload_n 2, 1) := by decide +kernel
theorem dX9_word_11 : decode cX9_word 11 = .ok (.tableswitch 65 0 4 #[33, 39, 45, 52, 59], 33) := by decide +kernel
theorem dX9_word_44 : decode cX9_word 44 = .ok (.aload_n 0, 1) := by decide +kernel
theorem dX9_word_45 : decode cX9_word 45 = .ok (.iload_n 1, 1) := by decide +kernel
theorem dX9_word_46 : decode cX9_word 46 = .ok (.invokevirtual 64, 3) := by decide +kernel
theorem dX9_word_49 : decode cX9_word 49 = .ok (.ireturn, 1) := by decide +kernel
theorem dX9_word_50 : decode cX9_word 50 = .ok (.aload_n 0, 1) := by decide +kernel
theorem dX9_word_51 : decode cX9_word 51 = .ok (.iload_n 1, 1) := by decide +kernel
theorem dX9_word_52 : decode cX9_word 52 = .ok (.invokevirtual 175, 3) := by decide +kernel
theorem dX9_word_55 : decode cX9_word 55 = .ok (.ireturn, 1) := by decide +kernel
theorem dX9_word_56 : decode cX9_word 56 = .ok (.aload_n 0, 1) := by decide +kernel
theorem dX9_word_57 : decode cX9_word 57 = .ok (.iload_n 1, 1) := by decide +kernel
theorem dX9_word_58 : decode cX9_word 58 = .ok (.iconst 0, 1) := by decide +kernel
theorem dX9_word_59 : decode cX9_word 59 = .ok (.invokevirtual 178, 3) := by decide +kernel
theorem dX9_word_62 : decode cX9_word 62 = .ok (.ireturn, 1) := by decide +kernel
theorem dX9_word_63 : decode cX9_word 63 = .ok (.aload_n 0, 1) := by decide +kernel
theorem dX9_word_64 : decode cX9_word 64 = .ok (.iload_n 1, 1) := by decide +kernel
theorem dX9_word_65 : decode cX9_word 65 = .ok (.iconst 1, 1) := by decide +kernel
theorem dX9_word_66 : decode cX9_word 66 = .ok (.invokevirtual 178, 3) := by decide +kernel
theorem dX9_word_69 : decode cX9_word 69 = .ok (.ireturn, 1) := by decide +kernel
theorem dX9_word_70 : decode cX9_word 70 = .ok (.aload_n 0, 1) := by decide +kernel
theorem dX9_word_71 : decode cX9_word 71 = .ok (.iload_n 1, 1) := by decide +kernel
theorem dX9_word_72 : decode cX9_word 72 = .ok (.invokevirtual 182, 3) := by decide +kernel
theorem dX9_word_75 : decode cX9_word 75 = .ok (.ireturn, 1) := by decide +kernel
theorem dX9_word_76 : decode cX9_word 76 = .ok (.bipush (-2), 2) := by decide +kernel
theorem dX9_word_78 : decode cX9_word 78 = .ok (.ireturn, 1) := by decide +kernel
set_option maxRecDepth 20000 in
theorem ggX9_letterOf_X9_isWord : GoodIn wsX9_letterOf wsX9_isWord := goodIn_r _ [5, 6, 7, 8, 4, 9, 18, 19, 20, 21, 22, 23, 24, 25, 26, 27, 28, 29, 30, 31, 32, 33, 34, 35, 36] (by decide +kernel) (by decide +kernel)
set_option maxRecDepth 20000 in
theorem gX9_letterOf_X9_isWord : GoodIn wsX9_letterOf (wsV RX9 152 RX9 yX9_isWord wsX9_isWord) := goodIn_app (goodIn_of _ (by decide +kernel)) ggX9_letterOf_X9_isWord
set_option maxRecDepth 20000 in
theorem ggX9_letterOf_X9_sizeOf : GoodIn wsX9_letterOf wsX9_sizeOf := goodIn_r _ [13, 6, 18, 19, 20, 21, 22, 23, 24, 25, 26, 27, 28, 29, 30, 31, 32, 33, 34, 35, 36] (by decide +kernel) (by decide +kernel)
set_option maxRecDepth 20000 in
theorem gX9_letterOf_X9_sizeOf : GoodIn wsX9_letterOf (wsV RX9 64 RX9 yX9_sizeOf wsX9_sizeOf) := goodIn_app (goodIn_of _ (by decide +kernel)) ggX9_letterOf_X9_sizeOf
set_option maxRecDepth 20000 in
theorem ggX9_letterOf_X9_letterAt : GoodIn wsX9_letterOf wsX9_letterAt := goodIn_r _ [17, 6, 18, 19, 20, 21, 22, 23, 24, 25, 26, 27, 28, 29, 30, 31, 32, 33, 34, 35, 36] (by decide +kernel) (by decide +kernel)
set_option maxRecDepth 20000 in
theorem gX9_letterOf_X9_letterAt : GoodIn wsX9_letterOf (wsV RX9 68 RX9 yX9_letterAt wsX9_letterAt) := goodIn_app (goodIn_of _ (by decide +kernel)) ggX9_letterOf_X9_letterAt
theorem dX9_letterOf_0 : decode cX9_letterOf 0 = .ok (.aload_n 0, 1) := by decide +kernel
theorem dX9_letterOf_1 : decode cX9_letterOf 1 = .ok (.iload_n 1, 1) := by decide +kernel
theorem dX9_letterOf_2 : decode cX9_letterOf 2 = .ok (.invokevirtual 152, 3) := by decide +kernel
theorem dX9_letterOf_5 : decode cX9_letterOf 5 = .ok (.ifCond .ne 5, 3) := by decide +kernel
theorem dX9_letterOf_8 : decode cX9_letterOf 8 = .ok (.iconst (-1), 1) := by decide +kernel
theorem dX9_letterOf_9 : decode cX9_letterOf 9 = .ok (.ireturn, 1) := by decide +kernel
theorem dX9_letterOf_10 : decode cX9_letterOf 10 = .ok (.iload_n 2, 1) := by decide +kernel
theorem dX9_letterOf_11 : decode cX9_letterOf 11 = .ok (.ifCond .ge 6, 3) := by decide +kernel
theorem dX9_letterOf_14 : decode cX9_letterOf 14 = .ok (.bipush (-2), 2) := by decide +kernel
theorem dX9_letterOf_16 : decode cX9_letterOf 16 = .ok (.ireturn, 1) := by decide +kernel
theorem dX9_letterOf_17 : decode cX9_letterOf 17 = .ok (.iload_n 2, 1) := by decide +kernel
theorem dX9_letterOf_18 : decode cX9_letterOf 18 = .ok (.aload_n 0, 1) := by decide +kernel
theorem dX9_letterOf_19 : decode cX9_letterOf 19 = .ok (.iload_n 1, 1) := by decide +kernel
theorem dX9_letterOf_20 : decode cX9_letterOf 20 = .ok (.invokevirtual 64, 3) := by decide +kernel
theorem dX9_letterOf_23 : decode cX9_letterOf 23 = .ok (.if_icmp .ge 12, 3) := by decide +kernel
theorem dX9_letterOf_26 : decode cX9_letterOf 26 = .ok (.aload_n 0, 1) := by decide +kernel
theorem dX9_letterOf_27 : decode cX9_letterOf 27 = .ok (.iload_n 1, 1) := by decide +kernel
theorem dX9_letterOf_28 : decode cX9_letterOf 28 = .ok (.iload_n 2, 1) := by decide +kernel
theorem dX9_letterOf_29 : decode cX9_letterOf 29 = .ok (.invokevirtual 68, 3) := by decide +kernel
theorem dX9_letterOf_32 : decode cX9_letterOf 32 = .ok (.goto 5, 3) := by decide +kernel
theorem dX9_letterOf_35 : decode cX9_letterOf 35 = .ok (.bipush (-5), 2) := by decide +kernel
theorem dX9_letterOf_37 : decode cX9_letterOf 37 = .ok (.ireturn, 1) := by decide +kernel
set_option maxRecDepth 20000 in
theorem ggX9_sheet_X9_isLines : GoodIn wsX9_sheet wsX9_isLines := goodIn_r _ [7, 8, 9, 10, 6, 11] (by decide +kernel) (by decide +kernel)
set_option maxRecDepth 20000 in
theorem gX9_sheet_X9_isLines : GoodIn wsX9_sheet (va_wsS RX9 157 yX9_isLines wsX9_isLines) := goodIn_app (goodIn_of _ (by decide +kernel)) ggX9_sheet_X9_isLines
set_option maxRecDepth 20000 in
theorem ggX9_sheet_X9_in : GoodIn wsX9_sheet wsX9_in := goodIn_r _ [11] (by decide +kernel) (by decide +kernel)
set_option maxRecDepth 20000 in
theorem gX9_sheet_X9_in : GoodIn wsX9_sheet (va_wsS RX9 57 yX9_in wsX9_in) := goodIn_app (goodIn_of _ (by decide +kernel)) ggX9_sheet_X9_in
set_option maxRecDepth 20000 in
theorem ggX9_sheet_X9_makesSheet : GoodIn wsX9_sheet wsX9_makesSheet := goodIn_r _ [15, 1, 2, 3, 16, 17, 18, 19, 20, 21, 6, 22, 23, 24, 25, 26, 27, 28, 29, 30, 31, 32, 33, 34, 35, 36, 37, 38, 39, 40, 41, 42, 43, 44, 45, 46, 47, 48, 49, 50, 51, 52, 53, 54, 55, 56, 57, 58, 59, 60, 61, 62, 63, 64, 65, 66, 67, 68, 69, 70, 71, 72, 73, 74, 75, 76, 77, 78, 79, 80, 81] (by decide +kernel) (by decide +kernel)
set_option maxRecDepth 20000 in
theorem gX9_sheet_X9_makesSheet : GoodIn wsX9_sheet (wsV RX9 160 RX9 yX9_makesSheet wsX9_makesSheet) := goodIn_app (goodIn_of _ (by decide +kernel)) ggX9_sheet_X9_makesSheet
theorem dX9_sheet_0 : decode cX9_sheet 0 = .ok (.iload_n 1, 1) := by decide +kernel
theorem dX9_sheet_1 : decode cX9_sheet 1 = .ok (.invokestatic 157, 3) := by decide +kernel
theorem dX9_sheet_4 : decode cX9_sheet 4 = .ok (.ifCond .eq 17, 3) := by decide +kernel
theorem dX9_sheet_7 : decode cX9_sheet 7 = .ok (.iload_n 2, 1) := by decide +kernel
theorem dX9_sheet_8 : decode cX9_sheet 8 = .ok (.ifCond .lt 13, 3) := by decide +kernel
theorem dX9_sheet_11 : decode cX9_sheet 11 = .ok (.iload_n 3, 1) := by decide +kernel
theorem dX9_sheet_12 : decode cX9_sheet 12 = .ok (.i2l, 1) := by decide +kernel
theorem dX9_sheet_13 : decode cX9_sheet 13 = .ok (.lconst 0, 1) := by decide +kernel
theorem dX9_sheet_14 : decode cX9_sheet 14 = .ok (.lconst 1, 1) := by decide +kernel
theorem dX9_sheet_15 : decode cX9_sheet 15 = .ok (.invokestatic 57, 3) := by decide +kernel
theorem dX9_sheet_18 : decode cX9_sheet 18 = .ok (.ifCond .ne 6, 3) := by decide +kernel
theorem dX9_sheet_21 : decode cX9_sheet 21 = .ok (.bipush (-2), 2) := by decide +kernel
theorem dX9_sheet_23 : decode cX9_sheet 23 = .ok (.ireturn, 1) := by decide +kernel
theorem dX9_sheet_24 : decode cX9_sheet 24 = .ok (.aload_n 0, 1) := by decide +kernel
theorem dX9_sheet_25 : decode cX9_sheet 25 = .ok (.iload_n 1, 1) := by decide +kernel
theorem dX9_sheet_26 : decode cX9_sheet 26 = .ok (.invokevirtual 160, 3) := by decide +kernel
theorem dX9_sheet_29 : decode cX9_sheet 29 = .ok (.iload_n 2, 1) := by decide +kernel
theorem dX9_sheet_30 : decode cX9_sheet 30 = .ok (.aload_n 0, 1) := by decide +kernel
theorem dX9_sheet_31 : decode cX9_sheet 31 = .ok (.getfield 93, 3) := by decide +kernel
theorem dX9_sheet_34 : decode cX9_sheet 34 = .ok (.if_icmp .lt 8, 3) := by decide +kernel
theorem dX9_sheet_37 : decode cX9_sheet 37 = .ok (.bipush (-5), 2) := by decide +kernel
theorem dX9_sheet_39 : decode cX9_sheet 39 = .ok (.goto 22, 3) := by decide +kernel
theorem dX9_sheet_42 : decode cX9_sheet 42 = .ok (.iload_n 3, 1) := by decide +kernel
theorem dX9_sheet_43 : decode cX9_sheet 43 = .ok (.ifCond .ne 12, 3) := by decide +kernel
theorem dX9_sheet_46 : decode cX9_sheet 46 = .ok (.aload_n 0, 1) := by decide +kernel
theorem dX9_sheet_47 : decode cX9_sheet 47 = .ok (.getfield 28, 3) := by decide +kernel
theorem dX9_sheet_50 : decode cX9_sheet 50 = .ok (.iload_n 2, 1) := by decide +kernel
theorem dX9_sheet_51 : decode cX9_sheet 51 = .ok (.iaload, 1) := by decide +kernel
theorem dX9_sheet_52 : decode cX9_sheet 52 = .ok (.goto 9, 3) := by decide +kernel
theorem dX9_sheet_55 : decode cX9_sheet 55 = .ok (.aload_n 0, 1) := by decide +kernel
theorem dX9_sheet_56 : decode cX9_sheet 56 = .ok (.getfield 31, 3) := by decide +kernel
theorem dX9_sheet_59 : decode cX9_sheet 59 = .ok (.iload_n 2, 1) := by decide +kernel
theorem dX9_sheet_60 : decode cX9_sheet 60 = .ok (.iaload, 1) := by decide +kernel
theorem dX9_sheet_61 : decode cX9_sheet 61 = .ok (.ireturn, 1) := by decide +kernel
theorem dX9_coveredIn_0 : decode cX9_coveredIn 0 = .ok (.iconst 0, 1) := by decide +kernel
theorem dX9_coveredIn_1 : decode cX9_coveredIn 1 = .ok (.istore_n 3, 1) := by decide +kernel
theorem dX9_coveredIn_2 : decode cX9_coveredIn 2 = .ok (.iload_n 1, 1) := by decide +kernel
theorem dX9_coveredIn_3 : decode cX9_coveredIn 3 = .ok (.istore 4, 2) := by decide +kernel
theorem dX9_coveredIn_5 : decode cX9_coveredIn 5 = .ok (.iload 4, 2) := by decide +kernel
theorem dX9_coveredIn_7 : decode cX9_coveredIn 7 = .ok (.iload_n 2, 1) := by decide +kernel
theorem dX9_coveredIn_8 : decode cX9_coveredIn 8 = .ok (.if_icmp .ge 19, 3) := by decide +kernel
theorem dX9_coveredIn_11 : decode cX9_coveredIn 11 = .ok (.iload_n 3, 1) := by decide +kernel
theorem dX9_coveredIn_12 : decode cX9_coveredIn 12 = .ok (.aload_n 0, 1) := by decide +kernel
theorem dX9_coveredIn_13 : decode cX9_coveredIn 13 = .ok (.getfield 34, 3) := by decide +kernel
theorem dX9_coveredIn_16 : decode cX9_coveredIn 16 = .ok (.iload 4, 2) := by decide +kernel
theorem dX9_coveredIn_18 : decode cX9_coveredIn 18 = .ok (.iaload, 1) := by decide +kernel
theorem dX9_coveredIn_19 : decode cX9_coveredIn 19 = .ok (.iadd, 1) := by decide +kernel
theorem dX9_coveredIn_20 : decode cX9_coveredIn 20 = .ok (.istore_n 3, 1) := by decide +kernel
theorem dX9_coveredIn_21 : decode cX9_coveredIn 21 = .ok (.iinc 4 1, 3) := by decide +kernel
theorem dX9_coveredIn_24 : decode cX9_coveredIn 24 = .ok (.goto (-19), 3) := by decide +kernel
theorem dX9_coveredIn_27 : decode cX9_coveredIn 27 = .ok (.iload_n 3, 1) := by decide +kernel
theorem dX9_coveredIn_28 : decode cX9_coveredIn 28 = .ok (.ireturn, 1) := by decide +kernel
set_option maxRecDepth 20000 in
theorem ggX9_coveredNeeds_X9_needOf : GoodIn wsX9_coveredNeeds wsX9_needOf := goodIn_r _ [6, 7, 8, 9, 10, 11, 12, 13, 14, 15, 16, 17, 18, 19, 20, 21, 22, 23, 24, 25, 26] (by decide +kernel) (by decide +kernel)
set_option maxRecDepth 20000 in
theorem gX9_coveredNeeds_X9_needOf : GoodIn wsX9_coveredNeeds (wsV RX9 90 RX9 yX9_needOf wsX9_needOf) := goodIn_app (goodIn_of _ (by decide +kernel)) ggX9_coveredNeeds_X9_needOf
theorem dX9_coveredNeeds_0 : decode cX9_coveredNeeds 0 = .ok (.iconst 0, 1) := by decide +kernel
theorem dX9_coveredNeeds_1 : decode cX9_coveredNeeds 1 = .ok (.istore_n 1, 1) := by decide +kernel
theorem dX9_coveredNeeds_2 : decode cX9_coveredNeeds 2 = .ok (.iconst 0, 1) := by decide +kernel
theorem dX9_coveredNeeds_3 : decode cX9_coveredNeeds 3 = .ok (.istore_n 2, 1) := by decide +kernel
theorem dX9_coveredNeeds_4 : decode cX9_coveredNeeds 4 = .ok (.iload_n 2, 1) := by decide +kernel
theorem dX9_coveredNeeds_5 : decode cX9_coveredNeeds 5 = .ok (.sipush 702, 3) := by decide +kernel
theorem dX9_coveredNeeds_8 : decode cX9_coveredNeeds 8 = .ok (.if_icmp .ge 24, 3) := by decide +kernel
theorem dX9_coveredNeeds_11 : decode cX9_coveredNeeds 11 = .ok (.iload_n 1, 1) := by decide +kernel
theorem dX9_coveredNeeds_12 : decode cX9_coveredNeeds 12 = .ok (.aload_n 0, 1) := by decide +kernel
theorem dX9_coveredNeeds_13 : decode cX9_coveredNeeds 13 = .ok (.getfield 34, 3) := by decide +kernel
theorem dX9_coveredNeeds_16 : decode cX9_coveredNeeds 16 = .ok (.iload_n 2, 1) := by decide +kernel
theorem dX9_coveredNeeds_17 : decode cX9_coveredNeeds 17 = .ok (.iaload, 1) := by decide +kernel
theorem dX9_coveredNeeds_18 : decode cX9_coveredNeeds 18 = .ok (.aload_n 0, 1) := by decide +kernel
theorem dX9_coveredNeeds_19 : decode cX9_coveredNeeds 19 = .ok (.iload_n 2, 1) := by decide +kernel
theorem dX9_coveredNeeds_20 : decode cX9_coveredNeeds 20 = .ok (.invokevirtual 90, 3) := by decide +kernel
theorem dX9_coveredNeeds_23 : decode cX9_coveredNeeds 23 = .ok (.imul, 1) := by decide +kernel
theorem dX9_coveredNeeds_24 : decode cX9_coveredNeeds 24 = .ok (.iadd, 1) := by decide +kernel
theorem dX9_coveredNeeds_25 : decode cX9_coveredNeeds 25 = .ok (.istore_n 1, 1) := by decide +kernel
theorem dX9_coveredNeeds_26 : decode cX9_coveredNeeds 26 = .ok (.iinc 2 1, 3) := by decide +kernel
theorem dX9_coveredNeeds_29 : decode cX9_coveredNeeds 29 = .ok (.goto (-25), 3) := by decide +kernel
theorem dX9_coveredNeeds_32 : decode cX9_coveredNeeds 32 = .ok (.iload_n 1, 1) := by decide +kernel
theorem dX9_coveredNeeds_33 : decode cX9_coveredNeeds 33 = .ok (.ireturn, 1) := by decide +kernel
theorem dX9_gains_0 : decode cX9_gains 0 = .ok (.iconst 0, 1) := by decide +kernel
theorem dX9_gains_1 : decode cX9_gains 1 = .ok (.istore_n 1, 1) := by decide +kernel
theorem dX9_gains_2 : decode cX9_gains 2 = .ok (.iconst 0, 1) := by decide +kernel
theorem dX9_gains_3 : decode cX9_gains 3 = .ok (.istore_n 2, 1) := by decide +kernel
theorem dX9_gains_4 : decode cX9_gains 4 = .ok (.iload_n 2, 1) := by decide +kernel
theorem dX9_gains_5 : decode cX9_gains 5 = .ok (.aload_n 0, 1) := by decide +kernel
theorem dX9_gains_6 : decode cX9_gains 6 = .ok (.getfield 93, 3) := by decide +kernel
theorem dX9_gains_9 : decode cX9_gains 9 = .ok (.if_icmp .ge 18, 3) := by decide +kernel
theorem dX9_gains_12 : decode cX9_gains 12 = .ok (.iload_n 1, 1) := by decide +kernel
theorem dX9_gains_13 : decode cX9_gains 13 = .ok (.aload_n 0, 1) := by decide +kernel
theorem dX9_gains_14 : decode cX9_gains 14 = .ok (.getfield 31, 3) := by decide +kernel
theorem dX9_gains_17 : decode cX9_gains 17 = .ok (.iload_n 2, 1) := by decide +kernel
theorem dX9_gains_18 : decode cX9_gains 18 = .ok (.iaload, 1) := by decide +kernel
theorem dX9_gains_19 : decode cX9_gains 19 = .ok (.iadd, 1) := by decide +kernel
theorem dX9_gains_20 : decode cX9_gains 20 = .ok (.istore_n 1, 1) := by decide +kernel
theorem dX9_gains_21 : decode cX9_gains 21 = .ok (.iinc 2 1, 3) := by decide +kernel
theorem dX9_gains_24 : decode cX9_gains 24 = .ok (.goto (-20), 3) := by decide +kernel
theorem dX9_gains_27 : decode cX9_gains 27 = .ok (.iload_n 1, 1) := by decide +kernel
theorem dX9_gains_28 : decode cX9_gains 28 = .ok (.ireturn, 1) := by decide +kernel
set_option maxRecDepth 20000 in
theorem ggX9_covers_X9_isLines : GoodIn wsX9_covers wsX9_isLines := goodIn_r _ [6, 7, 8, 9, 5, 10] (by decide +kernel) (by decide +kernel)
set_option maxRecDepth 20000 in
theorem gX9_covers_X9_isLines : GoodIn wsX9_covers (va_wsS RX9 157 yX9_isLines wsX9_isLines) := goodIn_app (goodIn_of _ (by decide +kernel)) ggX9_covers_X9_isLines
set_option maxRecDepth 20000 in
theorem ggX9_covers_X9_in : GoodIn wsX9_covers wsX9_in := goodIn_r _ [10] (by decide +kernel) (by decide +kernel)
set_option maxRecDepth 20000 in
theorem gX9_covers_X9_in : GoodIn wsX9_covers (va_wsS RX9 57 yX9_in wsX9_in) := goodIn_app (goodIn_of _ (by decide +kernel)) ggX9_covers_X9_in
set_option maxRecDepth 20000 in
theorem ggX9_covers_X9_makesSheet : GoodIn wsX9_covers wsX9_makesSheet := goodIn_r _ [14, 2, 15, 16, 17, 18, 19, 20, 21, 22, 5, 23, 24, 25, 26, 27, 28, 29, 30, 31, 32, 33, 34, 35, 36, 37, 38, 39, 40, 41, 42, 43, 44, 45, 46, 47, 48, 49, 50, 51, 52, 53, 54, 55, 56, 57, 58, 59, 60, 61, 62, 63, 76, 77, 78, 79, 80, 81, 82, 83, 84, 85, 86, 87, 88, 89, 90, 91, 92, 93, 94] (by decide +kernel) (by decide +kernel)
set_option maxRecDepth 20000 in
theorem gX9_covers_X9_makesSheet : GoodIn wsX9_covers (wsV RX9 160 RX9 yX9_makesSheet wsX9_makesSheet) := goodIn_app (goodIn_of _ (by decide +kernel)) ggX9_covers_X9_makesSheet
set_option maxRecDepth 20000 in
theorem ggX9_covers_X9_coveredIn : GoodIn wsX9_covers wsX9_coveredIn := goodIn_r _ [67, 18, 76, 77, 78, 79, 80, 81, 82, 83, 84, 85, 86, 87, 88, 89, 90, 91, 92, 93, 94] (by decide +kernel) (by decide +kernel)
set_option maxRecDepth 20000 in
theorem gX9_covers_X9_coveredIn : GoodIn wsX9_covers (wsV RX9 187 RX9 yX9_coveredIn wsX9_coveredIn) := goodIn_app (goodIn_of _ (by decide +kernel)) ggX9_covers_X9_coveredIn
set_option maxRecDepth 20000 in
theorem ggX9_covers_X9_coveredNeeds : GoodIn wsX9_covers wsX9_coveredNeeds := goodIn_r _ [71, 18, 60, 61, 62, 5, 63, 28, 76, 77, 78, 79, 80, 81, 82, 83, 84, 85, 86, 87, 88, 89, 90, 91, 92, 93, 94] (by decide +kernel) (by decide +kernel)
set_option maxRecDepth 20000 in
theorem gX9_covers_X9_coveredNeeds : GoodIn wsX9_covers (wsV RX9 190 RX9 yX9_coveredNeeds wsX9_coveredNeeds) := goodIn_app (goodIn_of _ (by decide +kernel)) ggX9_covers_X9_coveredNeeds
set_option maxRecDepth 20000 in
theorem ggX9_covers_X9_gains : GoodIn wsX9_covers wsX9_gains := goodIn_r _ [75, 2, 16, 76, 77, 78, 79, 80, 81, 82, 83, 84, 85, 86, 87, 88, 89, 90, 91, 92, 93, 94] (by decide +kernel) (by decide +kernel)
set_option maxRecDepth 20000 in
theorem gX9_covers_X9_gains : GoodIn wsX9_covers (wsV RX9 193 RX9 yX9_gains wsX9_gains) := goodIn_app (goodIn_of _ (by decide +kernel)) ggX9_covers_X9_gains
theorem dX9_covers_0 : decode cX9_covers 0 = .ok (.iload_n 1, 1) := by decide +kernel
theorem dX9_covers_1 : decode cX9_covers 1 = .ok (.invokestatic 157, 3) := by decide +kernel
theorem dX9_covers_4 : decode cX9_covers 4 = .ok (.ifCond .eq 15, 3) := by decide +kernel
theorem dX9_covers_7 : decode cX9_covers 7 = .ok (.iload_n 2, 1) := by decide +kernel
theorem dX9_covers_8 : decode cX9_covers 8 = .ok (.i2l, 1) := by decide +kernel
theorem dX9_covers_9 : decode cX9_covers 9 = .ok (.lconst 0, 1) := by decide +kernel
theorem dX9_covers_10 : decode cX9_covers 10 = .ok (.ldc2_w 185, 3) := by decide +kernel
theorem dX9_covers_13 : decode cX9_covers 13 = .ok (.invokestatic 57, 3) := by decide +kernel
theorem dX9_covers_16 : decode cX9_covers 16 = .ok (.ifCond .ne 6, 3) := by decide +kernel
theorem dX9_covers_19 : decode cX9_covers 19 = .ok (.bipush (-2), 2) := by decide +kernel
theorem dX9_covers_21 : decode cX9_covers 21 = .ok (.ireturn, 1) := by decide +kernel
theorem dX9_covers_22 : decode cX9_covers 22 = .ok (.aload_n 0, 1) := by decide +kernel
theorem dX9_covers_23 : decode cX9_covers 23 = .ok (.iload_n 1, 1) := by decide +kernel
theorem dX9_covers_24 : decode cX9_covers 24 = .ok (.invokevirtual 160, 3) := by decide +kernel
theorem dX9_covers_27 : decode cX9_covers 27 = .ok (.iload_n 2, 1) := by decide +kernel
theorem dX9_covers_28 : decode cX9_covers 28 = .ok (.ifCond .ne 10, 3) := by decide +kernel
theorem dX9_covers_31 : decode cX9_covers 31 = .ok (.aload_n 0, 1) := by decide +kernel
theorem dX9_covers_32 : decode cX9_covers 32 = .ok (.getfield 93, 3) := by decide +kernel
theorem dX9_covers_35 : decode cX9_covers 35 = .ok (.goto 51, 3) := by decide +kernel
theorem dX9_covers_38 : decode cX9_covers 38 = .ok (.iload_n 2, 1) := by decide +kernel
theorem dX9_covers_39 : decode cX9_covers 39 = .ok (.iconst 1, 1) := by decide +kernel
theorem dX9_covers_40 : decode cX9_covers 40 = .ok (.if_icmp .ne 13, 3) := by decide +kernel
theorem dX9_covers_43 : decode cX9_covers 43 = .ok (.aload_n 0, 1) := by decide +kernel
theorem dX9_covers_44 : decode cX9_covers 44 = .ok (.iconst 0, 1) := by decide +kernel
theorem dX9_covers_45 : decode cX9_covers 45 = .ok (.bipush 26, 2) := by decide +kernel
theorem dX9_covers_47 : decode cX9_covers 47 = .ok (.invokevirtual 187, 3) := by decide +kernel
theorem dX9_covers_50 : decode cX9_covers 50 = .ok (.goto 36, 3) := by decide +kernel
theorem dX9_covers_53 : decode cX9_covers 53 = .ok (.iload_n 2, 1) := by decide +kernel
theorem dX9_covers_54 : decode cX9_covers 54 = .ok (.iconst 2, 1) := by decide +kernel
theorem dX9_covers_55 : decode cX9_covers 55 = .ok (.if_icmp .ne 15, 3) := by decide +kernel
theorem dX9_covers_58 : decode cX9_covers 58 = .ok (.aload_n 0, 1) := by decide +kernel
theorem dX9_covers_59 : decode cX9_covers 59 = .ok (.bipush 26, 2) := by decide +kernel
theorem dX9_covers_61 : decode cX9_covers 61 = .ok (.sipush 702, 3) := by decide +kernel
theorem dX9_covers_64 : decode cX9_covers 64 = .ok (.invokevirtual 187, 3) := by decide +kernel
theorem dX9_covers_67 : decode cX9_covers 67 = .ok (.goto 19, 3) := by decide +kernel
theorem dX9_covers_70 : decode cX9_covers 70 = .ok (.iload_n 2, 1) := by decide +kernel
theorem dX9_covers_71 : decode cX9_covers 71 = .ok (.iconst 3, 1) := by decide +kernel
theorem dX9_covers_72 : decode cX9_covers 72 = .ok (.if_icmp .ne 10, 3) := by decide +kernel
theorem dX9_covers_75 : decode cX9_covers 75 = .ok (.aload_n 0, 1) := by decide +kernel
theorem dX9_covers_76 : decode cX9_covers 76 = .ok (.invokevirtual 190, 3) := by decide +kernel
theorem dX9_covers_79 : decode cX9_covers 79 = .ok (.goto 7, 3) := by decide +kernel
theorem dX9_covers_82 : decode cX9_covers 82 = .ok (.aload_n 0, 1) := by decide +kernel
theorem dX9_covers_83 : decode cX9_covers 83 = .ok (.invokevirtual 193, 3) := by decide +kernel
theorem dX9_covers_86 : decode cX9_covers 86 = .ok (.ireturn, 1) := by decide +kernel
set_option maxRecDepth 20000 in
theorem ggX9_worst_X9_needOf : GoodIn wsX9_worst wsX9_needOf := goodIn_r _ [5, 6, 7, 8, 9, 10, 11, 12, 13, 14, 15, 16, 17, 18, 19, 20, 21, 22, 23, 24, 25] (by decide +kernel) (by decide +kernel)
set_option maxRecDepth 20000 in
theorem gX9_worst_X9_needOf : GoodIn wsX9_worst (wsV RX9 90 RX9 yX9_needOf wsX9_needOf) := goodIn_app (goodIn_of _ (by decide +kernel)) ggX9_worst_X9_needOf
theorem dX9_worst_0 : decode cX9_worst 0 = .ok (.iload_n 2, 1) := by decide +kernel
theorem dX9_worst_1 : decode cX9_worst 1 = .ok (.ifCond .ge 6, 3) := by decide +kernel
theorem dX9_worst_4 : decode cX9_worst 4 = .ok (.bipush (-2), 2) := by decide +kernel
theorem dX9_worst_6 : decode cX9_worst 6 = .ok (.ireturn, 1) := by decide +kernel
theorem dX9_worst_7 : decode cX9_worst 7 = .ok (.iload_n 1, 1) := by decide +kernel
theorem dX9_worst_8 : decode cX9_worst 8 = .ok (.ifCond .eq 8, 3) := by decide +kernel
theorem dX9_worst_11 : decode cX9_worst 11 = .ok (.bipush 26, 2) := by decide +kernel
theorem dX9_worst_13 : decode cX9_worst 13 = .ok (.goto 4, 3) := by decide +kernel
theorem dX9_worst_16 : decode cX9_worst 16 = .ok (.iconst 0, 1) := by decide +kernel
theorem dX9_worst_17 : decode cX9_worst 17 = .ok (.istore_n 3, 1) := by decide +kernel
theorem dX9_worst_18 : decode cX9_worst 18 = .ok (.iload_n 1, 1) := by decide +kernel
theorem dX9_worst_19 : decode cX9_worst 19 = .ok (.ifCond .eq 9, 3) := by decide +kernel
theorem dX9_worst_22 : decode cX9_worst 22 = .ok (.sipush 702, 3) := by decide +kernel
theorem dX9_worst_25 : decode cX9_worst 25 = .ok (.goto 5, 3) := by decide +kernel
theorem dX9_worst_28 : decode cX9_worst 28 = .ok (.bipush 26, 2) := by decide +kernel
theorem dX9_worst_30 : decode cX9_worst 30 = .ok (.istore 4, 2) := by decide +kernel
theorem dX9_worst_32 : decode cX9_worst 32 = .ok (.iload_n 2, 1) := by decide +kernel
theorem dX9_worst_33 : decode cX9_worst 33 = .ok (.istore 5, 2) := by decide +kernel
theorem dX9_worst_35 : decode cX9_worst 35 = .ok (.bipush 100, 2) := by decide +kernel
theorem dX9_worst_37 : decode cX9_worst 37 = .ok (.istore 6, 2) := by decide +kernel
theorem dX9_worst_39 : decode cX9_worst 39 = .ok (.iload 6, 2) := by decide +kernel
theorem dX9_worst_41 : decode cX9_worst 41 = .ok (.ifCond .le 49, 3) := by decide +kernel
theorem dX9_worst_44 : decode cX9_worst 44 = .ok (.iload_n 3, 1) := by decide +kernel
theorem dX9_worst_45 : decode cX9_worst 45 = .ok (.istore 7, 2) := by decide +kernel
theorem dX9_worst_47 : decode cX9_worst 47 = .ok (.iload 7, 2) := by decide +kernel
theorem dX9_worst_49 : decode cX9_worst 49 = .ok (.iload 4, 2) := by decide +kernel
theorem dX9_worst_51 : decode cX9_worst 51 = .ok (.if_icmp .ge 33, 3) := by decide +kernel
theorem dX9_worst_54 : decode cX9_worst 54 = .ok (.aload_n 0, 1) := by decide +kernel
theorem dX9_worst_55 : decode cX9_worst 55 = .ok (.iload 7, 2) := by decide +kernel
theorem dX9_worst_57 : decode cX9_worst 57 = .ok (.invokevirtual 90, 3) := by decide +kernel
theorem dX9_worst_60 : decode cX9_worst 60 = .ok (.iload 6, 2) := by decide +kernel
theorem dX9_worst_62 : decode cX9_worst 62 = .ok (.if_icmp .ne 16, 3) := by decide +kernel
theorem dX9_worst_65 : decode cX9_worst 65 = .ok (.iload 5, 2) := by decide +kernel
theorem dX9_worst_67 : decode cX9_worst 67 = .ok (.ifCond .ne 8, 3) := by decide +kernel
theorem dX9_worst_70 : decode cX9_worst 70 = .ok (.iload 7, 2) := by decide +kernel
theorem dX9_worst_72 : decode cX9_worst 72 = .ok (.iload_n 3, 1) := by decide +kernel
theorem dX9_worst_73 : decode cX9_worst 73 = .ok (.isub, 1) := by decide +kernel
theorem dX9_worst_74 : decode cX9_worst 74 = .ok (.ireturn, 1) := by decide +kernel
theorem dX9_worst_75 : decode cX9_worst 75 = .ok (.iinc 5 (-1), 3) := by decide +kernel
theorem dX9_worst_78 : decode cX9_worst 78 = .ok (.iinc 7 1, 3) := by decide +kernel
theorem dX9_worst_81 : decode cX9_worst 81 = .ok (.goto (-34), 3) := by decide +kernel
theorem dX9_worst_84 : decode cX9_worst 84 = .ok (.iinc 6 (-1), 3) := by decide +kernel
theorem dX9_worst_87 : decode cX9_worst 87 = .ok (.goto (-48), 3) := by decide +kernel
theorem dX9_worst_90 : decode cX9_worst 90 = .ok (.bipush (-5), 2) := by decide +kernel
theorem dX9_worst_92 : decode cX9_worst 92 = .ok (.ireturn, 1) := by decide +kernel
set_option maxRecDepth 20000 in
theorem ggX9_missing_X9_needOf : GoodIn wsX9_missing wsX9_needOf := goodIn_r _ [5, 6, 36, 37, 38, 39, 40, 41, 42, 43, 44, 45, 46, 47, 48, 49, 50, 51, 52, 53, 54] (by decide +kernel) (by decide +kernel)
set_option maxRecDepth 20000 in
theorem gX9_missing_X9_needOf : GoodIn wsX9_missing (wsV RX9 90 RX9 yX9_needOf wsX9_needOf) := goodIn_app (goodIn_of _ (by decide +kernel)) ggX9_missing_X9_needOf
set_option maxRecDepth 20000 in
theorem ggX9_missing_X9_wordsWith : GoodIn wsX9_missing wsX9_wordsWith := goodIn_r _ [10, 6, 11, 12, 13, 4, 14, 15, 16, 17, 18, 19, 20, 21, 22, 23, 24, 25, 26, 27, 28, 29, 30, 31, 32, 33, 34, 35, 36, 37, 38, 39, 40, 41, 42, 43, 44, 45, 46, 47, 48, 49, 50, 51, 52, 53, 54] (by decide +kernel) (by decide +kernel)
set_option maxRecDepth 20000 in
theorem gX9_missing_X9_wordsWith : GoodIn wsX9_missing (wsV RX9 169 RX9 yX9_wordsWith wsX9_wordsWith) := goodIn_app (goodIn_of _ (by decide +kernel)) ggX9_missing_X9_wordsWith
theorem dX9_missing_0 : decode cX9_missing 0 = .ok (.iconst 0, 1) := by decide +kernel
theorem dX9_missing_1 : decode cX9_missing 1 = .ok (.istore_n 2, 1) := by decide +kernel
theorem dX9_missing_2 : decode cX9_missing 2 = .ok (.iload_n 1, 1) := by decide +kernel
theorem dX9_missing_3 : decode cX9_missing 3 = .ok (.ifCond .eq 8, 3) := by decide +kernel
theorem dX9_missing_6 : decode cX9_missing 6 = .ok (.bipush 26, 2) := by decide +kernel
theorem dX9_missing_8 : decode cX9_missing 8 = .ok (.goto 4, 3) := by decide +kernel
theorem dX9_missing_11 : decode cX9_missing 11 = .ok (.iconst 0, 1) := by decide +kernel
theorem dX9_missing_12 : decode cX9_missing 12 = .ok (.istore_n 3, 1) := by decide +kernel
theorem dX9_missing_13 : decode cX9_missing 13 = .ok (.iload_n 3, 1) := by decide +kernel
theorem dX9_missing_14 : decode cX9_missing 14 = .ok (.iload_n 1, 1) := by decide +kernel
theorem dX9_missing_15 : decode cX9_missing 15 = .ok (.ifCond .eq 9, 3) := by decide +kernel
theorem dX9_missing_18 : decode cX9_missing 18 = .ok (.sipush 702, 3) := by decide +kernel
theorem dX9_missing_21 : decode cX9_missing 21 = .ok (.goto 5, 3) := by decide +kernel
theorem dX9_missing_24 : decode cX9_missing 24 = .ok (.bipush 26, 2) := by decide +kernel
theorem dX9_missing_26 : decode cX9_missing 26 = .ok (.if_icmp .ge 33, 3) := by decide +kernel
theorem dX9_missing_29 : decode cX9_missing 29 = .ok (.iload_n 2, 1) := by decide +kernel
theorem dX9_missing_30 : decode cX9_missing 30 = .ok (.aload_n 0, 1) := by decide +kernel
theorem dX9_missing_31 : decode cX9_missing 31 = .ok (.iload_n 3, 1) := by decide +kernel
theorem dX9_missing_32 : decode cX9_missing 32 = .ok (.invokevirtual 90, 3) := by decide +kernel
theorem dX9_missing_35 : decode cX9_missing 35 = .ok (.ifCond .le 15, 3) := by decide +kernel
theorem dX9_missing_38 : decode cX9_missing 38 = .ok (.aload_n 0, 1) := by decide +kernel
theorem dX9_missing_39 : decode cX9_missing 39 = .ok (.iload_n 3, 1) := by decide +kernel
theorem dX9_missing_40 : decode cX9_missing 40 = .ok (.invokevirtual 169, 3) := by decide +kernel
theorem dX9_missing_43 : decode cX9_missing 43 = .ok (.ifCond .ne 7, 3) := by decide +kernel
theorem dX9_missing_46 : decode cX9_missing 46 = .ok (.iconst 1, 1) := by decide +kernel
theorem dX9_missing_47 : decode cX9_missing 47 = .ok (.goto 4, 3) := by decide +kernel
theorem dX9_missing_50 : decode cX9_missing 50 = .ok (.iconst 0, 1) := by decide +kernel
theorem dX9_missing_51 : decode cX9_missing 51 = .ok (.iadd, 1) := by decide +kernel
theorem dX9_missing_52 : decode cX9_missing 52 = .ok (.istore_n 2, 1) := by decide +kernel
theorem dX9_missing_53 : decode cX9_missing 53 = .ok (.iinc 3 1, 3) := by decide +kernel
theorem dX9_missing_56 : decode cX9_missing 56 = .ok (.goto (-43), 3) := by decide +kernel
theorem dX9_missing_59 : decode cX9_missing 59 = .ok (.iload_n 2, 1) := by decide +kernel
theorem dX9_missing_60 : decode cX9_missing 60 = .ok (.ireturn, 1) := by decide +kernel
set_option maxRecDepth 20000 in
theorem ggX9_greatestOfWords_X9_findsParts : GoodIn wsX9_greatestOfWords wsX9_findsParts := goodIn_r _ [8, 2, 9, 10, 11, 7, 12, 1, 13, 14, 15, 16, 17, 18, 19, 20, 3, 21, 22, 23, 28, 29, 30, 31, 32, 33, 34, 35, 36, 37, 38, 39, 40, 41, 42, 43, 44, 45, 46] (by decide +kernel) (by decide +kernel)
set_option maxRecDepth 20000 in
theorem gX9_greatestOfWords_X9_findsParts : GoodIn wsX9_greatestOfWords (wsV RX9 79 RX9 yX9_findsParts wsX9_findsParts) := goodIn_app (goodIn_of _ (by decide +kernel)) ggX9_greatestOfWords_X9_findsParts
set_option maxRecDepth 20000 in
theorem ggX9_greatestOfWords_X9_needOf : GoodIn wsX9_greatestOfWords wsX9_needOf := goodIn_r _ [27, 1, 28, 29, 30, 31, 32, 33, 34, 35, 36, 37, 38, 39, 40, 41, 42, 43, 44, 45, 46] (by decide +kernel) (by decide +kernel)
set_option maxRecDepth 20000 in
theorem gX9_greatestOfWords_X9_needOf : GoodIn wsX9_greatestOfWords (wsV RX9 90 RX9 yX9_needOf wsX9_needOf) := goodIn_app (goodIn_of _ (by decide +kernel)) ggX9_greatestOfWords_X9_needOf
theorem dX9_greatestOfWords_0 : decode cX9_greatestOfWords 0 = .ok (.iconst 0, 1) := by decide +kernel
theorem dX9_greatestOfWords_1 : decode cX9_greatestOfWords 1 = .ok (.istore_n 1, 1) := by decide +kernel
theorem dX9_greatestOfWords_2 : decode cX9_greatestOfWords 2 = .ok (.iconst 0, 1) := by decide +kernel
theorem dX9_greatestOfWords_3 : decode cX9_greatestOfWords 3 = .ok (.istore_n 2, 1) := by decide +kernel
theorem dX9_greatestOfWords_4 : decode cX9_greatestOfWords 4 = .ok (.iload_n 2, 1) := by decide +kernel
theorem dX9_greatestOfWords_5 : decode cX9_greatestOfWords 5 = .ok (.aload_n 0, 1) := by decide +kernel
theorem dX9_greatestOfWords_6 : decode cX9_greatestOfWords 6 = .ok (.getfield 7, 3) := by decide +kernel
theorem dX9_greatestOfWords_9 : decode cX9_greatestOfWords 9 = .ok (.iconst 5, 1) := by decide +kernel
theorem dX9_greatestOfWords_10 : decode cX9_greatestOfWords 10 = .ok (.iaload, 1) := by decide +kernel
theorem dX9_greatestOfWords_11 : decode cX9_greatestOfWords 11 = .ok (.if_icmp .ge 59, 3) := by decide +kernel
theorem dX9_greatestOfWords_14 : decode cX9_greatestOfWords 14 = .ok (.aload_n 0, 1) := by decide +kernel
theorem dX9_greatestOfWords_15 : decode cX9_greatestOfWords 15 = .ok (.iload_n 2, 1) := by decide +kernel
theorem dX9_greatestOfWords_16 : decode cX9_greatestOfWords 16 = .ok (.invokevirtual 79, 3) := by decide +kernel
theorem dX9_greatestOfWords_19 : decode cX9_greatestOfWords 19 = .ok (.iconst 0, 1) := by decide +kernel
theorem dX9_greatestOfWords_20 : decode cX9_greatestOfWords 20 = .ok (.istore_n 3, 1) := by decide +kernel
theorem dX9_greatestOfWords_21 : decode cX9_greatestOfWords 21 = .ok (.iload_n 3, 1) := by decide +kernel
theorem dX9_greatestOfWords_22 : decode cX9_greatestOfWords 22 = .ok (.aload_n 0, 1) := by decide +kernel
theorem dX9_greatestOfWords_23 : decode cX9_greatestOfWords 23 = .ok (.getfield 61, 3) := by decide +kernel
theorem dX9_greatestOfWords_26 : decode cX9_greatestOfWords 26 = .ok (.if_icmp .ge 38, 3) := by decide +kernel
theorem dX9_greatestOfWords_29 : decode cX9_greatestOfWords 29 = .ok (.aload_n 0, 1) := by decide +kernel
theorem dX9_greatestOfWords_30 : decode cX9_greatestOfWords 30 = .ok (.aload_n 0, 1) := by decide +kernel
theorem dX9_greatestOfWords_31 : decode cX9_greatestOfWords 31 = .ok (.getfield 25, 3) := by decide +kernel
theorem dX9_greatestOfWords_34 : decode cX9_greatestOfWords 34 = .ok (.iload_n 3, 1) := by decide +kernel
theorem dX9_greatestOfWords_35 : decode cX9_greatestOfWords 35 = .ok (.iaload, 1) := by decide +kernel
theorem dX9_greatestOfWords_36 : decode cX9_greatestOfWords 36 = .ok (.invokevirtual 90, 3) := by decide +kernel
theorem dX9_greatestOfWords_39 : decode cX9_greatestOfWords 39 = .ok (.iload_n 1, 1) := by decide +kernel
theorem dX9_greatestOfWords_40 : decode cX9_greatestOfWords 40 = .ok (.if_icmp .le 16, 3) := by decide +kernel
theorem dX9_greatestOfWords_43 : decode cX9_greatestOfWords 43 = .ok (.aload_n 0, 1) := by decide +kernel
theorem dX9_greatestOfWords_44 : decode cX9_greatestOfWords 44 = .ok (.aload_n 0, 1) := by decide +kernel
theorem dX9_greatestOfWords_45 : decode cX9_greatestOfWords 45 = .ok (.getfield 25, 3) := by decide +kernel
theorem dX9_greatestOfWords_48 : decode cX9_greatestOfWords 48 = .ok (.iload_n 3, 1) := by decide +kernel
theorem dX9_greatestOfWords_49 : decode cX9_greatestOfWords 49 = .ok (.iaload, 1) := by decide +kernel
theorem dX9_greatestOfWords_50 : decode cX9_greatestOfWords 50 = .ok (.invokevirtual 90, 3) := by decide +kernel
theorem dX9_greatestOfWords_53 : decode cX9_greatestOfWords 53 = .ok (.goto 4, 3) := by decide +kernel
theorem dX9_greatestOfWords_56 : decode cX9_greatestOfWords 56 = .ok (.iload_n 1, 1) := by decide +kernel
theorem dX9_greatestOfWords_57 : decode cX9_greatestOfWords 57 = .ok (.istore_n 1, 1) := by decide +kernel
theorem dX9_greatestOfWords_58 : decode cX9_greatestOfWords 58 = .ok (.iinc 3 1, 3) := by decide +kernel
theorem dX9_greatestOfWords_61 : decode cX9_greatestOfWords 61 = .ok (.goto (-40), 3) := by decide +kernel
theorem dX9_greatestOfWords_64 : decode cX9_greatestOfWords 64 = .ok (.iinc 2 1, 3) := by decide +kernel
theorem dX9_greatestOfWords_67 : decode cX9_greatestOfWords 67 = .ok (.goto (-63), 3) := by decide +kernel
theorem dX9_greatestOfWords_70 : decode cX9_greatestOfWords 70 = .ok (.iload_n 1, 1) := by decide +kernel
theorem dX9_greatestOfWords_71 : decode cX9_greatestOfWords 71 = .ok (.ireturn, 1) := by decide +kernel
set_option maxRecDepth 20000 in
theorem ggX9_sheetsTo_X9_isLines : GoodIn wsX9_sheetsTo wsX9_isLines := goodIn_r _ [8, 9, 10, 11, 7, 12] (by decide +kernel) (by decide +kernel)
set_option maxRecDepth 20000 in
theorem gX9_sheetsTo_X9_isLines : GoodIn wsX9_sheetsTo (va_wsS RX9 157 yX9_isLines wsX9_isLines) := goodIn_app (goodIn_of _ (by decide +kernel)) ggX9_sheetsTo_X9_isLines
set_option maxRecDepth 20000 in
theorem ggX9_sheetsTo_X9_in : GoodIn wsX9_sheetsTo wsX9_in := goodIn_r _ [12] (by decide +kernel) (by decide +kernel)
set_option maxRecDepth 20000 in
theorem gX9_sheetsTo_X9_in : GoodIn wsX9_sheetsTo (va_wsS RX9 57 yX9_in wsX9_in) := goodIn_app (goodIn_of _ (by decide +kernel)) ggX9_sheetsTo_X9_in
set_option maxRecDepth 20000 in
theorem ggX9_sheetsTo_X9_copy : GoodIn wsX9_sheetsTo wsX9_copy := goodIn_r _ [15] (by decide +kernel) (by decide +kernel)
set_option maxRecDepth 20000 in
theorem gX9_sheetsTo_X9_copy : GoodIn wsX9_sheetsTo (va_wsS RX9 49 yX9_copy wsX9_copy) := goodIn_app (goodIn_of _ (by decide +kernel)) ggX9_sheetsTo_X9_copy
set_option maxRecDepth 20000 in
theorem ggX9_sheetsTo_X9_greatestOfWords : GoodIn wsX9_sheetsTo wsX9_greatestOfWords := goodIn_r _ [19, 2, 20, 21, 22, 23, 24, 7, 25, 26, 27, 28, 29, 30, 31, 32, 33, 34, 35, 36, 37, 38, 39, 40, 41, 42, 43, 44, 80, 81, 82, 83, 84, 85, 86, 87, 88, 89, 90, 91, 92, 93, 94, 95, 96, 97, 98] (by decide +kernel) (by decide +kernel)
set_option maxRecDepth 20000 in
theorem gX9_sheetsTo_X9_greatestOfWords : GoodIn wsX9_sheetsTo (wsV RX9 196 RX9 yX9_greatestOfWords wsX9_greatestOfWords) := goodIn_app (goodIn_of _ (by decide +kernel)) ggX9_sheetsTo_X9_greatestOfWords
set_option maxRecDepth 20000 in
theorem ggX9_sheetsTo_X9_makesSheet : GoodIn wsX9_sheetsTo wsX9_makesSheet := goodIn_r _ [48, 4, 49, 50, 20, 51, 21, 52, 53, 54, 7, 55, 56, 57, 58, 59, 2, 60, 61, 62, 63, 64, 65, 66, 67, 22, 23, 24, 25, 26, 27, 28, 29, 30, 31, 32, 33, 34, 35, 36, 37, 38, 39, 40, 68, 69, 70, 71, 41, 42, 43, 44, 80, 81, 82, 83, 84, 85, 86, 87, 88, 89, 90, 91, 92, 93, 94, 95, 96, 97, 98] (by decide +kernel) (by decide +kernel)
set_option maxRecDepth 20000 in
theorem gX9_sheetsTo_X9_makesSheet : GoodIn wsX9_sheetsTo (wsV RX9 160 RX9 yX9_makesSheet wsX9_makesSheet) := goodIn_app (goodIn_of _ (by decide +kernel)) ggX9_sheetsTo_X9_makesSheet
set_option maxRecDepth 20000 in
theorem ggX9_sheetsTo_X9_writesSheet : GoodIn wsX9_sheetsTo wsX9_writesSheet := goodIn_r _ [75, 4, 49, 2, 26, 27, 28, 7, 29, 30, 31, 32, 33, 76, 77, 78, 79, 38, 39, 40, 80, 81, 82, 83, 84, 85, 86, 87, 88, 89, 90, 91, 92, 93, 94, 95, 96, 97, 98] (by decide +kernel) (by decide +kernel)
set_option maxRecDepth 20000 in
theorem gX9_sheetsTo_X9_writesSheet : GoodIn wsX9_sheetsTo (wsV RX9 163 RX9 yX9_writesSheet wsX9_writesSheet) := goodIn_app (goodIn_of _ (by decide +kernel)) ggX9_sheetsTo_X9_writesSheet
theorem dX9_sheetsTo_0 : decode cX9_sheetsTo 0 = .ok (.iload_n 1, 1) := by decide +kernel
theorem dX9_sheetsTo_1 : decode cX9_sheetsTo 1 = .ok (.invokestatic 157, 3) := by decide +kernel
theorem dX9_sheetsTo_4 : decode cX9_sheetsTo 4 = .ok (.ifCond .eq 15, 3) := by decide +kernel
theorem dX9_sheetsTo_7 : decode cX9_sheetsTo 7 = .ok (.iload_n 2, 1) := by decide +kernel
theorem dX9_sheetsTo_8 : decode cX9_sheetsTo 8 = .ok (.i2l, 1) := by decide +kernel
theorem dX9_sheetsTo_9 : decode cX9_sheetsTo 9 = .ok (.lconst 0, 1) := by decide +kernel
theorem dX9_sheetsTo_10 : decode cX9_sheetsTo 10 = .ok (.ldc2_w 140, 3) := by decide +kernel
theorem dX9_sheetsTo_13 : decode cX9_sheetsTo 13 = .ok (.invokestatic 57, 3) := by decide +kernel
theorem dX9_sheetsTo_16 : decode cX9_sheetsTo 16 = .ok (.ifCond .ne 6, 3) := by decide +kernel
theorem dX9_sheetsTo_19 : decode cX9_sheetsTo 19 = .ok (.bipush (-2), 2) := by decide +kernel
theorem dX9_sheetsTo_21 : decode cX9_sheetsTo 21 = .ok (.ireturn, 1) := by decide +kernel
theorem dX9_sheetsTo_22 : decode cX9_sheetsTo 22 = .ok (.aload_n 0, 1) := by decide +kernel
theorem dX9_sheetsTo_23 : decode cX9_sheetsTo 23 = .ok (.getfield 7, 3) := by decide +kernel
theorem dX9_sheetsTo_26 : decode cX9_sheetsTo 26 = .ok (.aload_n 0, 1) := by decide +kernel
theorem dX9_sheetsTo_27 : decode cX9_sheetsTo 27 = .ok (.getfield 16, 3) := by decide +kernel
theorem dX9_sheetsTo_30 : decode cX9_sheetsTo 30 = .ok (.invokestatic 49, 3) := by decide +kernel
theorem dX9_sheetsTo_33 : decode cX9_sheetsTo 33 = .ok (.iconst 0, 1) := by decide +kernel
theorem dX9_sheetsTo_34 : decode cX9_sheetsTo 34 = .ok (.istore_n 3, 1) := by decide +kernel
theorem dX9_sheetsTo_35 : decode cX9_sheetsTo 35 = .ok (.iconst 1, 1) := by decide +kernel
theorem dX9_sheetsTo_36 : decode cX9_sheetsTo 36 = .ok (.istore 4, 2) := by decide +kernel
theorem dX9_sheetsTo_38 : decode cX9_sheetsTo 38 = .ok (.iload 4, 2) := by decide +kernel
theorem dX9_sheetsTo_40 : decode cX9_sheetsTo 40 = .ok (.ifCond .eq 51, 3) := by decide +kernel
theorem dX9_sheetsTo_43 : decode cX9_sheetsTo 43 = .ok (.aload_n 0, 1) := by decide +kernel
theorem dX9_sheetsTo_44 : decode cX9_sheetsTo 44 = .ok (.invokevirtual 196, 3) := by decide +kernel
theorem dX9_sheetsTo_47 : decode cX9_sheetsTo 47 = .ok (.iload_n 2, 1) := by decide +kernel
theorem dX9_sheetsTo_48 : decode cX9_sheetsTo 48 = .ok (.if_icmp .le 43, 3) := by decide +kernel
theorem dX9_sheetsTo_51 : decode cX9_sheetsTo 51 = .ok (.aload_n 0, 1) := by decide +kernel
theorem dX9_sheetsTo_52 : decode cX9_sheetsTo 52 = .ok (.iload_n 1, 1) := by decide +kernel
theorem dX9_sheetsTo_53 : decode cX9_sheetsTo 53 = .ok (.invokevirtual 160, 3) := by decide +kernel
theorem dX9_sheetsTo_56 : decode cX9_sheetsTo 56 = .ok (.aload_n 0, 1) := by decide +kernel
theorem dX9_sheetsTo_57 : decode cX9_sheetsTo 57 = .ok (.getfield 93, 3) := by decide +kernel
theorem dX9_sheetsTo_60 : decode cX9_sheetsTo 60 = .ok (.ifCond .le 13, 3) := by decide +kernel
theorem dX9_sheetsTo_63 : decode cX9_sheetsTo 63 = .ok (.iload_n 3, 1) := by decide +kernel
theorem dX9_sheetsTo_64 : decode cX9_sheetsTo 64 = .ok (.bipush 20, 2) := by decide +kernel
theorem dX9_sheetsTo_66 : decode cX9_sheetsTo 66 = .ok (.if_icmp .ge 7, 3) := by decide +kernel
theorem dX9_sheetsTo_69 : decode cX9_sheetsTo 69 = .ok (.iconst 1, 1) := by decide +kernel
theorem dX9_sheetsTo_70 : decode cX9_sheetsTo 70 = .ok (.goto 4, 3) := by decide +kernel
theorem dX9_sheetsTo_73 : decode cX9_sheetsTo 73 = .ok (.iconst 0, 1) := by decide +kernel
theorem dX9_sheetsTo_74 : decode cX9_sheetsTo 74 = .ok (.istore 4, 2) := by decide +kernel
theorem dX9_sheetsTo_76 : decode cX9_sheetsTo 76 = .ok (.iload 4, 2) := by decide +kernel
theorem dX9_sheetsTo_78 : decode cX9_sheetsTo 78 = .ok (.ifCond .eq (-40), 3) := by decide +kernel
theorem dX9_sheetsTo_81 : decode cX9_sheetsTo 81 = .ok (.aload_n 0, 1) := by decide +kernel
theorem dX9_sheetsTo_82 : decode cX9_sheetsTo 82 = .ok (.invokevirtual 163, 3) := by decide +kernel
theorem dX9_sheetsTo_85 : decode cX9_sheetsTo 85 = .ok (.iinc 3 1, 3) := by decide +kernel
theorem dX9_sheetsTo_88 : decode cX9_sheetsTo 88 = .ok (.goto (-50), 3) := by decide +kernel
theorem dX9_sheetsTo_91 : decode cX9_sheetsTo 91 = .ok (.aload_n 0, 1) := by decide +kernel
theorem dX9_sheetsTo_92 : decode cX9_sheetsTo 92 = .ok (.getfield 16, 3) := by decide +kernel
theorem dX9_sheetsTo_95 : decode cX9_sheetsTo 95 = .ok (.aload_n 0, 1) := by decide +kernel
theorem dX9_sheetsTo_96 : decode cX9_sheetsTo 96 = .ok (.getfield 7, 3) := by decide +kernel
theorem dX9_sheetsTo_99 : decode cX9_sheetsTo 99 = .ok (.invokestatic 49, 3) := by decide +kernel
theorem dX9_sheetsTo_102 : decode cX9_sheetsTo 102 = .ok (.iload 4, 2) := by decide +kernel
theorem dX9_sheetsTo_104 : decode cX9_sheetsTo 104 = .ok (.ifCond .eq 7, 3) := by decide +kernel
theorem dX9_sheetsTo_107 : decode cX9_sheetsTo 107 = .ok (.iload_n 3, 1) := by decide +kernel
theorem dX9_sheetsTo_108 : decode cX9_sheetsTo 108 = .ok (.goto 5, 3) := by decide +kernel
theorem dX9_sheetsTo_111 : decode cX9_sheetsTo 111 = .ok (.bipush (-5), 2) := by decide +kernel
theorem dX9_sheetsTo_113 : decode cX9_sheetsTo 113 = .ok (.ireturn, 1) := by decide +kernel
set_option maxRecDepth 20000 in
theorem ggX9_greatestNeed_X9_needOf : GoodIn wsX9_greatestNeed wsX9_needOf := goodIn_r _ [5, 6, 7, 8, 9, 10, 11, 12, 13, 14, 15, 16, 17, 18, 19, 20, 21, 22, 23, 24, 25] (by decide +kernel) (by decide +kernel)
set_option maxRecDepth 20000 in
theorem gX9_greatestNeed_X9_needOf : GoodIn wsX9_greatestNeed (wsV RX9 90 RX9 yX9_needOf wsX9_needOf) := goodIn_app (goodIn_of _ (by decide +kernel)) ggX9_greatestNeed_X9_needOf
theorem dX9_greatestNeed_0 : decode cX9_greatestNeed 0 = .ok (.iconst 0, 1) := by decide +kernel
theorem dX9_greatestNeed_1 : decode cX9_greatestNeed 1 = .ok (.istore_n 3, 1) := by decide +kernel
theorem dX9_greatestNeed_2 : decode cX9_greatestNeed 2 = .ok (.iload_n 1, 1) := by decide +kernel
theorem dX9_greatestNeed_3 : decode cX9_greatestNeed 3 = .ok (.istore 4, 2) := by decide +kernel
theorem dX9_greatestNeed_5 : decode cX9_greatestNeed 5 = .ok (.iload 4, 2) := by decide +kernel
theorem dX9_greatestNeed_7 : decode cX9_greatestNeed 7 = .ok (.iload_n 2, 1) := by decide +kernel
theorem dX9_greatestNeed_8 : decode cX9_greatestNeed 8 = .ok (.if_icmp .ge 30, 3) := by decide +kernel
theorem dX9_greatestNeed_11 : decode cX9_greatestNeed 11 = .ok (.aload_n 0, 1) := by decide +kernel
theorem dX9_greatestNeed_12 : decode cX9_greatestNeed 12 = .ok (.iload 4, 2) := by decide +kernel
theorem dX9_greatestNeed_14 : decode cX9_greatestNeed 14 = .ok (.invokevirtual 90, 3) := by decide +kernel
theorem dX9_greatestNeed_17 : decode cX9_greatestNeed 17 = .ok (.iload_n 3, 1) := by decide +kernel
theorem dX9_greatestNeed_18 : decode cX9_greatestNeed 18 = .ok (.if_icmp .le 12, 3) := by decide +kernel
theorem dX9_greatestNeed_21 : decode cX9_greatestNeed 21 = .ok (.aload_n 0, 1) := by decide +kernel
theorem dX9_greatestNeed_22 : decode cX9_greatestNeed 22 = .ok (.iload 4, 2) := by decide +kernel
theorem dX9_greatestNeed_24 : decode cX9_greatestNeed 24 = .ok (.invokevirtual 90, 3) := by decide +kernel
theorem dX9_greatestNeed_27 : decode cX9_greatestNeed 27 = .ok (.goto 4, 3) := by decide +kernel
theorem dX9_greatestNeed_30 : decode cX9_greatestNeed 30 = .ok (.iload_n 3, 1) := by decide +kernel
theorem dX9_greatestNeed_31 : decode cX9_greatestNeed 31 = .ok (.istore_n 3, 1) := by decide +kernel
theorem dX9_greatestNeed_32 : decode cX9_greatestNeed 32 = .ok (.iinc 4 1, 3) := by decide +kernel
theorem dX9_greatestNeed_35 : decode cX9_greatestNeed 35 = .ok (.goto (-30), 3) := by decide +kernel
theorem dX9_greatestNeed_38 : decode cX9_greatestNeed 38 = .ok (.iload_n 3, 1) := by decide +kernel
theorem dX9_greatestNeed_39 : decode cX9_greatestNeed 39 = .ok (.ireturn, 1) := by decide +kernel
set_option maxRecDepth 20000 in
theorem ggX9_untriedIn_X9_isUntried : GoodIn wsX9_untriedIn wsX9_isUntried := goodIn_r _ [5, 6, 7, 8, 9, 10, 11, 12, 13, 14, 15, 16, 17, 18, 19, 20, 21, 22, 23, 24, 25] (by decide +kernel) (by decide +kernel)
set_option maxRecDepth 20000 in
theorem gX9_untriedIn_X9_isUntried : GoodIn wsX9_untriedIn (wsV RX9 86 RX9 yX9_isUntried wsX9_isUntried) := goodIn_app (goodIn_of _ (by decide +kernel)) ggX9_untriedIn_X9_isUntried
theorem dX9_untriedIn_0 : decode cX9_untriedIn 0 = .ok (.iconst 0, 1) := by decide +kernel
theorem dX9_untriedIn_1 : decode cX9_untriedIn 1 = .ok (.istore_n 3, 1) := by decide +kernel
theorem dX9_untriedIn_2 : decode cX9_untriedIn 2 = .ok (.iload_n 1, 1) := by decide +kernel
theorem dX9_untriedIn_3 : decode cX9_untriedIn 3 = .ok (.istore 4, 2) := by decide +kernel
theorem dX9_untriedIn_5 : decode cX9_untriedIn 5 = .ok (.iload 4, 2) := by decide +kernel
theorem dX9_untriedIn_7 : decode cX9_untriedIn 7 = .ok (.iload_n 2, 1) := by decide +kernel
theorem dX9_untriedIn_8 : decode cX9_untriedIn 8 = .ok (.if_icmp .ge 26, 3) := by decide +kernel
theorem dX9_untriedIn_11 : decode cX9_untriedIn 11 = .ok (.iload_n 3, 1) := by decide +kernel
theorem dX9_untriedIn_12 : decode cX9_untriedIn 12 = .ok (.aload_n 0, 1) := by decide +kernel
theorem dX9_untriedIn_13 : decode cX9_untriedIn 13 = .ok (.iload 4, 2) := by decide +kernel
theorem dX9_untriedIn_15 : decode cX9_untriedIn 15 = .ok (.invokevirtual 86, 3) := by decide +kernel
theorem dX9_untriedIn_18 : decode cX9_untriedIn 18 = .ok (.ifCond .eq 7, 3) := by decide +kernel
theorem dX9_untriedIn_21 : decode cX9_untriedIn 21 = .ok (.iconst 1, 1) := by decide +kernel
theorem dX9_untriedIn_22 : decode cX9_untriedIn 22 = .ok (.goto 4, 3) := by decide +kernel
theorem dX9_untriedIn_25 : decode cX9_untriedIn 25 = .ok (.iconst 0, 1) := by decide +kernel
theorem dX9_untriedIn_26 : decode cX9_untriedIn 26 = .ok (.iadd, 1) := by decide +kernel
theorem dX9_untriedIn_27 : decode cX9_untriedIn 27 = .ok (.istore_n 3, 1) := by decide +kernel
theorem dX9_untriedIn_28 : decode cX9_untriedIn 28 = .ok (.iinc 4 1, 3) := by decide +kernel
theorem dX9_untriedIn_31 : decode cX9_untriedIn 31 = .ok (.goto (-26), 3) := by decide +kernel
theorem dX9_untriedIn_34 : decode cX9_untriedIn 34 = .ok (.iload_n 3, 1) := by decide +kernel
theorem dX9_untriedIn_35 : decode cX9_untriedIn 35 = .ok (.ireturn, 1) := by decide +kernel
set_option maxRecDepth 20000 in
theorem ggX9_count_X9_untriedIn : GoodIn wsX9_count wsX9_untriedIn := goodIn_r _ [8, 9, 10, 11, 7, 12, 1, 21, 22, 23, 24, 25, 26, 27, 28, 29, 30, 31, 32, 33, 34, 35, 36, 37, 38, 39] (by decide +kernel) (by decide +kernel)
set_option maxRecDepth 20000 in
theorem gX9_count_X9_untriedIn : GoodIn wsX9_count (wsV RX9 199 RX9 yX9_untriedIn wsX9_untriedIn) := goodIn_app (goodIn_of _ (by decide +kernel)) ggX9_count_X9_untriedIn
set_option maxRecDepth 20000 in
theorem ggX9_count_X9_greatestNeed : GoodIn wsX9_count wsX9_greatestNeed := goodIn_r _ [16, 17, 18, 19, 7, 20, 1, 21, 22, 23, 24, 25, 26, 27, 28, 29, 30, 31, 32, 33, 34, 35, 36, 37, 38, 39] (by decide +kernel) (by decide +kernel)
set_option maxRecDepth 20000 in
theorem gX9_count_X9_greatestNeed : GoodIn wsX9_count (wsV RX9 202 RX9 yX9_greatestNeed wsX9_greatestNeed) := goodIn_app (goodIn_of _ (by decide +kernel)) ggX9_count_X9_greatestNeed
theorem dX9_count_0 : decode cX9_count 0 = .ok (.iload_n 1, 1) := by decide +kernel
theorem dX9_count_1 : decode cX9_count 1 = .ok (.tableswitch 155 0 11 #[63, 70, 77, 84, 92, 106, 114, 124, 131, 138, 145, 150], 63) := by decide +kernel
theorem dX9_count_64 : decode cX9_count 64 = .ok (.aload_n 0, 1) := by decide +kernel
theorem dX9_count_65 : decode cX9_count 65 = .ok (.getfield 7, 3) := by decide +kernel
theorem dX9_count_68 : decode cX9_count 68 = .ok (.iconst 5, 1) := by decide +kernel
theorem dX9_count_69 : decode cX9_count 69 = .ok (.iaload, 1) := by decide +kernel
theorem dX9_count_70 : decode cX9_count 70 = .ok (.ireturn, 1) := by decide +kernel
theorem dX9_count_71 : decode cX9_count 71 = .ok (.aload_n 0, 1) := by decide +kernel
theorem dX9_count_72 : decode cX9_count 72 = .ok (.getfield 7, 3) := by decide +kernel
theorem dX9_count_75 : decode cX9_count 75 = .ok (.iconst 1, 1) := by decide +kernel
theorem dX9_count_76 : decode cX9_count 76 = .ok (.iaload, 1) := by decide +kernel
theorem dX9_count_77 : decode cX9_count 77 = .ok (.ireturn, 1) := by decide +kernel
theorem dX9_count_78 : decode cX9_count 78 = .ok (.aload_n 0, 1) := by decide +kernel
theorem dX9_count_79 : decode cX9_count 79 = .ok (.getfield 7, 3) := by decide +kernel
theorem dX9_count_82 : decode cX9_count 82 = .ok (.iconst 0, 1) := by decide +kernel
theorem dX9_count_83 : decode cX9_count 83 = .ok (.iaload, 1) := by decide +kernel
theorem dX9_count_84 : decode cX9_count 84 = .ok (.ireturn, 1) := by decide +kernel
theorem dX9_count_85 : decode cX9_count 85 = .ok (.aload_n 0, 1) := by decide +kernel
theorem dX9_count_86 : decode cX9_count 86 = .ok (.iconst 0, 1) := by decide +kernel
theorem dX9_count_87 : decode cX9_count 87 = .ok (.bipush 26, 2) := by decide +kernel
theorem dX9_count_89 : decode cX9_count 89 = .ok (.invokevirtual 199, 3) := by decide +kernel
theorem dX9_count_92 : decode cX9_count 92 = .ok (.ireturn, 1) := by decide +kernel
theorem dX9_count_93 : decode cX9_count 93 = .ok (.sipush 676, 3) := by decide +kernel
theorem dX9_count_96 : decode cX9_count 96 = .ok (.aload_n 0, 1) := by decide +kernel
theorem dX9_count_97 : decode cX9_count 97 = .ok (.bipush 26, 2) := by decide +kernel
theorem dX9_count_99 : decode cX9_count 99 = .ok (.sipush 702, 3) := by decide +kernel
theorem dX9_count_102 : decode cX9_count 102 = .ok (.invokevirtual 199, 3) := by decide +kernel
theorem dX9_count_105 : decode cX9_count 105 = .ok (.isub, 1) := by decide +kernel
theorem dX9_count_106 : decode cX9_count 106 = .ok (.ireturn, 1) := by decide +kernel
theorem dX9_count_107 : decode cX9_count 107 = .ok (.aload_n 0, 1) := by decide +kernel
theorem dX9_count_108 : decode cX9_count 108 = .ok (.iconst 0, 1) := by decide +kernel
theorem dX9_count_109 : decode cX9_count 109 = .ok (.bipush 26, 2) := by decide +kernel
theorem dX9_count_111 : decode cX9_count 111 = .ok (.invokevirtual 202, 3) := by decide +kernel
theorem dX9_count_114 : decode cX9_count 114 = .ok (.ireturn, 1) := by decide +kernel
theorem dX9_count_115 : decode cX9_count 115 = .ok (.aload_n 0, 1) := by decide +kernel
theorem dX9_count_116 : decode cX9_count 116 = .ok (.bipush 26, 2) := by decide +kernel
theorem dX9_count_118 : decode cX9_count 118 = .ok (.sipush 702, 3) := by decide +kernel
theorem dX9_count_121 : decode cX9_count 121 = .ok (.invokevirtual 202, 3) := by decide +kernel
theorem dX9_count_124 : decode cX9_count 124 = .ok (.ireturn, 1) := by decide +kernel
theorem dX9_count_125 : decode cX9_count 125 = .ok (.aload_n 0, 1) := by decide +kernel
theorem dX9_count_126 : decode cX9_count 126 = .ok (.getfield 7, 3) := by decide +kernel
theorem dX9_count_129 : decode cX9_count 129 = .ok (.iconst 2, 1) := by decide +kernel
theorem dX9_count_130 : decode cX9_count 130 = .ok (.iaload, 1) := by decide +kernel
theorem dX9_count_131 : decode cX9_count 131 = .ok (.ireturn, 1) := by decide +kernel
theorem dX9_count_132 : decode cX9_count 132 = .ok (.aload_n 0, 1) := by decide +kernel
theorem dX9_count_133 : decode cX9_count 133 = .ok (.getfield 7, 3) := by decide +kernel
theorem dX9_count_136 : decode cX9_count 136 = .ok (.iconst 3, 1) := by decide +kernel
theorem dX9_count_137 : decode cX9_count 137 = .ok (.iaload, 1) := by decide +kernel
theorem dX9_count_138 : decode cX9_count 138 = .ok (.ireturn, 1) := by decide +kernel
theorem dX9_count_139 : decode cX9_count 139 = .ok (.aload_n 0, 1) := by decide +kernel
theorem dX9_count_140 : decode cX9_count 140 = .ok (.getfield 7, 3) := by decide +kernel
theorem dX9_count_143 : decode cX9_count 143 = .ok (.iconst 4, 1) := by decide +kernel
theorem dX9_count_144 : decode cX9_count 144 = .ok (.iaload, 1) := by decide +kernel
theorem dX9_count_145 : decode cX9_count 145 = .ok (.ireturn, 1) := by decide +kernel
theorem dX9_count_146 : decode cX9_count 146 = .ok (.aload_n 0, 1) := by decide +kernel
theorem dX9_count_147 : decode cX9_count 147 = .ok (.getfield 53, 3) := by decide +kernel
theorem dX9_count_150 : decode cX9_count 150 = .ok (.ireturn, 1) := by decide +kernel
theorem dX9_count_151 : decode cX9_count 151 = .ok (.aload_n 0, 1) := by decide +kernel
theorem dX9_count_152 : decode cX9_count 152 = .ok (.getfield 113, 3) := by decide +kernel
theorem dX9_count_155 : decode cX9_count 155 = .ok (.ireturn, 1) := by decide +kernel
theorem dX9_count_156 : decode cX9_count 156 = .ok (.bipush (-2), 2) := by decide +kernel
theorem dX9_count_158 : decode cX9_count 158 = .ok (.ireturn, 1) := by decide +kernel
