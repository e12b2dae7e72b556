theorem dX4_init_0 : decode cX4_init 0 = .ok (.aload_n 0, 1) := by decide +kernel
theorem dX4_init_1 : decode cX4_init 1 = .ok (.invokespecial 1, 3) := by decide +kernel
theorem dX4_init_4 : decode cX4_init 4 = .ok (.aload_n 0, 1) := by decide +kernel
theorem dX4_init_5 : decode cX4_init 5 = .ok (.sipush 323, 3) := by decide +kernel
theorem dX4_init_8 : decode cX4_init 8 = .ok (.newarray .int, 2) := by decide +kernel
theorem dX4_init_10 : decode cX4_init 10 = .ok (.putfield 7, 3) := by decide +kernel
theorem dX4_init_13 : decode cX4_init 13 = .ok (.aload_n 0, 1) := by decide +kernel
theorem dX4_init_14 : decode cX4_init 14 = .ok (.sipush 323, 3) := by decide +kernel
theorem dX4_init_17 : decode cX4_init 17 = .ok (.newarray .int, 2) := by decide +kernel
theorem dX4_init_19 : decode cX4_init 19 = .ok (.putfield 13, 3) := by decide +kernel
theorem dX4_init_22 : decode cX4_init 22 = .ok (.aload_n 0, 1) := by decide +kernel
theorem dX4_init_23 : decode cX4_init 23 = .ok (.sipush 1938, 3) := by decide +kernel
theorem dX4_init_26 : decode cX4_init 26 = .ok (.newarray .int, 2) := by decide +kernel
theorem dX4_init_28 : decode cX4_init 28 = .ok (.putfield 16, 3) := by decide +kernel
theorem dX4_init_31 : decode cX4_init 31 = .ok (.aload_n 0, 1) := by decide +kernel
theorem dX4_init_32 : decode cX4_init 32 = .ok (.bipush 60, 2) := by decide +kernel
theorem dX4_init_34 : decode cX4_init 34 = .ok (.newarray .int, 2) := by decide +kernel
theorem dX4_init_36 : decode cX4_init 36 = .ok (.putfield 19, 3) := by decide +kernel
theorem dX4_init_39 : decode cX4_init 39 = .ok (.aload_n 0, 1) := by decide +kernel
theorem dX4_init_40 : decode cX4_init 40 = .ok (.bipush 62, 2) := by decide +kernel
theorem dX4_init_42 : decode cX4_init 42 = .ok (.newarray .int, 2) := by decide +kernel
theorem dX4_init_44 : decode cX4_init 44 = .ok (.putfield 22, 3) := by decide +kernel
theorem dX4_init_47 : decode cX4_init 47 = .ok (.aload_n 0, 1) := by decide +kernel
theorem dX4_init_48 : decode cX4_init 48 = .ok (.getfield 7, 3) := by decide +kernel
theorem dX4_init_51 : decode cX4_init 51 = .ok (.iconst 0, 1) := by decide +kernel
theorem dX4_init_52 : decode cX4_init 52 = .ok (.bipush 20, 2) := by decide +kernel
theorem dX4_init_54 : decode cX4_init 54 = .ok (.iastore, 1) := by decide +kernel
theorem dX4_init_55 : decode cX4_init 55 = .ok (.iconst 0, 1) := by decide +kernel
theorem dX4_init_56 : decode cX4_init 56 = .ok (.istore_n 1, 1) := by decide +kernel
theorem dX4_init_57 : decode cX4_init 57 = .ok (.iload_n 1, 1) := by decide +kernel
theorem dX4_init_58 : decode cX4_init 58 = .ok (.bipush 16, 2) := by decide +kernel
theorem dX4_init_60 : decode cX4_init 60 = .ok (.if_icmp .ge 20, 3) := by decide +kernel
theorem dX4_init_63 : decode cX4_init 63 = .ok (.aload_n 0, 1) := by decide +kernel
theorem dX4_init_64 : decode cX4_init 64 = .ok (.getfield 7, 3) := by decide +kernel
theorem dX4_init_67 : decode cX4_init 67 = .ok (.sipush 259, 3) := by decide +kernel
theorem dX4_init_70 : decode cX4_init 70 = .ok (.iload_n 1, 1) := by decide +kernel
theorem dX4_init_71 : decode cX4_init 71 = .ok (.iadd, 1) := by decide +kernel
theorem dX4_init_72 : decode cX4_init 72 = .ok (.iload_n 1, 1) := by decide +kernel
theorem dX4_init_73 : decode cX4_init 73 = .ok (.iastore, 1) := by decide +kernel
theorem dX4_init_74 : decode cX4_init 74 = .ok (.iinc 1 1, 3) := by decide +kernel
theorem dX4_init_77 : decode cX4_init 77 = .ok (.goto (-20), 3) := by decide +kernel
theorem dX4_init_80 : decode cX4_init 80 = .ok (.return_, 1) := by decide +kernel
theorem dX4_thrown_0 : decode cX4_thrown 0 = .ok (.aload_n 0, 1) := by decide +kernel
theorem dX4_thrown_1 : decode cX4_thrown 1 = .ok (.getfield 25, 3) := by decide +kernel
theorem dX4_thrown_4 : decode cX4_thrown 4 = .ok (.ireturn, 1) := by decide +kernel
theorem dX4_fails_0 : decode cX4_fails 0 = .ok (.aload_n 0, 1) := by decide +kernel
theorem dX4_fails_1 : decode cX4_fails 1 = .ok (.iload_n 1, 1) := by decide +kernel
theorem dX4_fails_2 : decode cX4_fails 2 = .ok (.putfield 25, 3) := by decide +kernel
theorem dX4_fails_5 : decode cX4_fails 5 = .ok (.iconst 0, 1) := by decide +kernel
theorem dX4_fails_6 : decode cX4_fails 6 = .ok (.ireturn, 1) := by decide +kernel
theorem dX4_in_0 : decode cX4_in 0 = .ok (.iload_n 0, 1) := by decide +kernel
theorem dX4_in_1 : decode cX4_in 1 = .ok (.iload_n 1, 1) := by decide +kernel
theorem dX4_in_2 : decode cX4_in 2 = .ok (.if_icmp .lt 12, 3) := by decide +kernel
theorem dX4_in_5 : decode cX4_in 5 = .ok (.iload_n 0, 1) := by decide +kernel
theorem dX4_in_6 : decode cX4_in 6 = .ok (.iload_n 2, 1) := by decide +kernel
theorem dX4_in_7 : decode cX4_in 7 = .ok (.if_icmp .gt 7, 3) := by decide +kernel
theorem dX4_in_10 : decode cX4_in 10 = .ok (.iconst 1, 1) := by decide +kernel
theorem dX4_in_11 : decode cX4_in 11 = .ok (.goto 4, 3) := by decide +kernel
theorem dX4_in_14 : decode cX4_in 14 = .ok (.iconst 0, 1) := by decide +kernel
theorem dX4_in_15 : decode cX4_in 15 = .ok (.ireturn, 1) := by decide +kernel
set_option maxRecDepth 20000 in
theorem ggX4_isWord_X4_in : GoodIn wsX4_isWord wsX4_in := goodIn_r _ [4] (by decide +kernel) (by decide +kernel)
set_option maxRecDepth 20000 in
theorem gX4_isWord_X4_in : GoodIn wsX4_isWord (va_wsS RX4 29 yX4_in wsX4_in) := goodIn_app (goodIn_of _ (by decide +kernel)) ggX4_isWord_X4_in
theorem dX4_isWord_0 : decode cX4_isWord 0 = .ok (.iload_n 0, 1) := by decide +kernel
theorem dX4_isWord_1 : decode cX4_isWord 1 = .ok (.iconst 0, 1) := by decide +kernel
theorem dX4_isWord_2 : decode cX4_isWord 2 = .ok (.bipush 15, 2) := by decide +kernel
theorem dX4_isWord_4 : decode cX4_isWord 4 = .ok (.invokestatic 29, 3) := by decide +kernel
theorem dX4_isWord_7 : decode cX4_isWord 7 = .ok (.ireturn, 1) := by decide +kernel
set_option maxRecDepth 20000 in
theorem ggX4_isSlot_X4_in : GoodIn wsX4_isSlot wsX4_in := goodIn_r _ [4] (by decide +kernel) (by decide +kernel)
set_option maxRecDepth 20000 in
theorem gX4_isSlot_X4_in : GoodIn wsX4_isSlot (va_wsS RX4 29 yX4_in wsX4_in) := goodIn_app (goodIn_of _ (by decide +kernel)) ggX4_isSlot_X4_in
theorem dX4_isSlot_0 : decode cX4_isSlot 0 = .ok (.iload_n 0, 1) := by decide +kernel
theorem dX4_isSlot_1 : decode cX4_isSlot 1 = .ok (.iconst 0, 1) := by decide +kernel
theorem dX4_isSlot_2 : decode cX4_isSlot 2 = .ok (.bipush 17, 2) := by decide +kernel
theorem dX4_isSlot_4 : decode cX4_isSlot 4 = .ok (.invokestatic 29, 3) := by decide +kernel
theorem dX4_isSlot_7 : decode cX4_isSlot 7 = .ok (.ireturn, 1) := by decide +kernel
set_option maxRecDepth 20000 in
theorem ggX4_isNumber_X4_in : GoodIn wsX4_isNumber wsX4_in := goodIn_r _ [4] (by decide +kernel) (by decide +kernel)
set_option maxRecDepth 20000 in
theorem gX4_isNumber_X4_in : GoodIn wsX4_isNumber (va_wsS RX4 29 yX4_in wsX4_in) := goodIn_app (goodIn_of _ (by decide +kernel)) ggX4_isNumber_X4_in
theorem dX4_isNumber_0 : decode cX4_isNumber 0 = .ok (.iload_n 0, 1) := by decide +kernel
theorem dX4_isNumber_1 : decode cX4_isNumber 1 = .ok (.iconst 0, 1) := by decide +kernel
theorem dX4_isNumber_2 : decode cX4_isNumber 2 = .ok (.sipush 4095, 3) := by decide +kernel
theorem dX4_isNumber_5 : decode cX4_isNumber 5 = .ok (.invokestatic 29, 3) := by decide +kernel
theorem dX4_isNumber_8 : decode cX4_isNumber 8 = .ok (.ireturn, 1) := by decide +kernel
theorem dX4_copies_0 : decode cX4_copies 0 = .ok (.iconst 0, 1) := by decide +kernel
theorem dX4_copies_1 : decode cX4_copies 1 = .ok (.istore 4, 2) := by decide +kernel
theorem dX4_copies_3 : decode cX4_copies 3 = .ok (.iload 4, 2) := by decide +kernel
theorem dX4_copies_5 : decode cX4_copies 5 = .ok (.sipush 323, 3) := by decide +kernel
theorem dX4_copies_8 : decode cX4_copies 8 = .ok (.if_icmp .ge 21, 3) := by decide +kernel
theorem dX4_copies_11 : decode cX4_copies 11 = .ok (.aload_n 2, 1) := by decide +kernel
theorem dX4_copies_12 : decode cX4_copies 12 = .ok (.iload_n 3, 1) := by decide +kernel
theorem dX4_copies_13 : decode cX4_copies 13 = .ok (.iload 4, 2) := by decide +kernel
theorem dX4_copies_15 : decode cX4_copies 15 = .ok (.iadd, 1) := by decide +kernel
theorem dX4_copies_16 : decode cX4_copies 16 = .ok (.aload_n 0, 1) := by decide +kernel
theorem dX4_copies_17 : decode cX4_copies 17 = .ok (.iload_n 1, 1) := by decide +kernel
theorem dX4_copies_18 : decode cX4_copies 18 = .ok (.iload 4, 2) := by decide +kernel
theorem dX4_copies_20 : decode cX4_copies 20 = .ok (.iadd, 1) := by decide +kernel
theorem dX4_copies_21 : decode cX4_copies 21 = .ok (.iaload, 1) := by decide +kernel
theorem dX4_copies_22 : decode cX4_copies 22 = .ok (.iastore, 1) := by decide +kernel
theorem dX4_copies_23 : decode cX4_copies 23 = .ok (.iinc 4 1, 3) := by decide +kernel
theorem dX4_copies_26 : decode cX4_copies 26 = .ok (.goto (-23), 3) := by decide +kernel
theorem dX4_copies_29 : decode cX4_copies 29 = .ok (.return_, 1) := by decide +kernel
set_option maxRecDepth 20000 in
theorem ggX4_saves_X4_copies : GoodIn wsX4_saves wsX4_copies := goodIn_r _ [7] (by decide +kernel) (by decide +kernel)
set_option maxRecDepth 20000 in
theorem gX4_saves_X4_copies : GoodIn wsX4_saves (va_wsS RX4 36 yX4_copies wsX4_copies) := goodIn_app (goodIn_of _ (by decide +kernel)) ggX4_saves_X4_copies
theorem dX4_saves_0 : decode cX4_saves 0 = .ok (.aload_n 0, 1) := by decide +kernel
theorem dX4_saves_1 : decode cX4_saves 1 = .ok (.getfield 33, 3) := by decide +kernel
theorem dX4_saves_4 : decode cX4_saves 4 = .ok (.bipush 6, 2) := by decide +kernel
theorem dX4_saves_6 : decode cX4_saves 6 = .ok (.if_icmp .ne 44, 3) := by decide +kernel
theorem dX4_saves_9 : decode cX4_saves 9 = .ok (.iconst 0, 1) := by decide +kernel
theorem dX4_saves_10 : decode cX4_saves 10 = .ok (.istore_n 1, 1) := by decide +kernel
theorem dX4_saves_11 : decode cX4_saves 11 = .ok (.iload_n 1, 1) := by decide +kernel
theorem dX4_saves_12 : decode cX4_saves 12 = .ok (.sipush 1615, 3) := by decide +kernel
theorem dX4_saves_15 : decode cX4_saves 15 = .ok (.if_icmp .ge 25, 3) := by decide +kernel
theorem dX4_saves_18 : decode cX4_saves 18 = .ok (.aload_n 0, 1) := by decide +kernel
theorem dX4_saves_19 : decode cX4_saves 19 = .ok (.getfield 16, 3) := by decide +kernel
theorem dX4_saves_22 : decode cX4_saves 22 = .ok (.iload_n 1, 1) := by decide +kernel
theorem dX4_saves_23 : decode cX4_saves 23 = .ok (.aload_n 0, 1) := by decide +kernel
theorem dX4_saves_24 : decode cX4_saves 24 = .ok (.getfield 16, 3) := by decide +kernel
theorem dX4_saves_27 : decode cX4_saves 27 = .ok (.iload_n 1, 1) := by decide +kernel
theorem dX4_saves_28 : decode cX4_saves 28 = .ok (.sipush 323, 3) := by decide +kernel
theorem dX4_saves_31 : decode cX4_saves 31 = .ok (.iadd, 1) := by decide +kernel
theorem dX4_saves_32 : decode cX4_saves 32 = .ok (.iaload, 1) := by decide +kernel
theorem dX4_saves_33 : decode cX4_saves 33 = .ok (.iastore, 1) := by decide +kernel
theorem dX4_saves_34 : decode cX4_saves 34 = .ok (.iinc 1 1, 3) := by decide +kernel
theorem dX4_saves_37 : decode cX4_saves 37 = .ok (.goto (-26), 3) := by decide +kernel
theorem dX4_saves_40 : decode cX4_saves 40 = .ok (.aload_n 0, 1) := by decide +kernel
theorem dX4_saves_41 : decode cX4_saves 41 = .ok (.dup, 1) := by decide +kernel
theorem dX4_saves_42 : decode cX4_saves 42 = .ok (.getfield 33, 3) := by decide +kernel
theorem dX4_saves_45 : decode cX4_saves 45 = .ok (.iconst 1, 1) := by decide +kernel
theorem dX4_saves_46 : decode cX4_saves 46 = .ok (.isub, 1) := by decide +kernel
theorem dX4_saves_47 : decode cX4_saves 47 = .ok (.putfield 33, 3) := by decide +kernel
theorem dX4_saves_50 : decode cX4_saves 50 = .ok (.aload_n 0, 1) := by decide +kernel
theorem dX4_saves_51 : decode cX4_saves 51 = .ok (.getfield 7, 3) := by decide +kernel
theorem dX4_saves_54 : decode cX4_saves 54 = .ok (.iconst 0, 1) := by decide +kernel
theorem dX4_saves_55 : decode cX4_saves 55 = .ok (.aload_n 0, 1) := by decide +kernel
theorem dX4_saves_56 : decode cX4_saves 56 = .ok (.getfield 16, 3) := by decide +kernel
theorem dX4_saves_59 : decode cX4_saves 59 = .ok (.sipush 323, 3) := by decide +kernel
theorem dX4_saves_62 : decode cX4_saves 62 = .ok (.aload_n 0, 1) := by decide +kernel
theorem dX4_saves_63 : decode cX4_saves 63 = .ok (.getfield 33, 3) := by decide +kernel
theorem dX4_saves_66 : decode cX4_saves 66 = .ok (.imul, 1) := by decide +kernel
theorem dX4_saves_67 : decode cX4_saves 67 = .ok (.invokestatic 36, 3) := by decide +kernel
theorem dX4_saves_70 : decode cX4_saves 70 = .ok (.aload_n 0, 1) := by decide +kernel
theorem dX4_saves_71 : decode cX4_saves 71 = .ok (.dup, 1) := by decide +kernel
theorem dX4_saves_72 : decode cX4_saves 72 = .ok (.getfield 33, 3) := by decide +kernel
theorem dX4_saves_75 : decode cX4_saves 75 = .ok (.iconst 1, 1) := by decide +kernel
theorem dX4_saves_76 : decode cX4_saves 76 = .ok (.iadd, 1) := by decide +kernel
theorem dX4_saves_77 : decode cX4_saves 77 = .ok (.putfield 33, 3) := by decide +kernel
theorem dX4_saves_80 : decode cX4_saves 80 = .ok (.return_, 1) := by decide +kernel
set_option maxRecDepth 20000 in
theorem ggX4_undo_X4_fails : GoodIn wsX4_undo wsX4_fails := goodIn_r _ [9, 1, 13, 14, 15, 16, 17, 18, 19, 20, 21, 22, 23, 24] (by decide +kernel) (by decide +kernel)
set_option maxRecDepth 20000 in
theorem gX4_undo_X4_fails : GoodIn wsX4_undo (wsV RX4 40 RX4 yX4_fails wsX4_fails) := goodIn_app (goodIn_of _ (by decide +kernel)) ggX4_undo_X4_fails
set_option maxRecDepth 20000 in
theorem ggX4_undo_X4_copies : GoodIn wsX4_undo wsX4_copies := goodIn_r _ [12] (by decide +kernel) (by decide +kernel)
set_option maxRecDepth 20000 in
theorem gX4_undo_X4_copies : GoodIn wsX4_undo (va_wsS RX4 36 yX4_copies wsX4_copies) := goodIn_app (goodIn_of _ (by decide +kernel)) ggX4_undo_X4_copies
theorem dX4_undo_0 : decode cX4_undo 0 = .ok (.aload_n 0, 1) := by decide +kernel
theorem dX4_undo_1 : decode cX4_undo 1 = .ok (.iconst 0, 1) := by decide +kernel
theorem dX4_undo_2 : decode cX4_undo 2 = .ok (.putfield 25, 3) := by decide +kernel
theorem dX4_undo_5 : decode cX4_undo 5 = .ok (.aload_n 0, 1) := by decide +kernel
theorem dX4_undo_6 : decode cX4_undo 6 = .ok (.getfield 33, 3) := by decide +kernel
theorem dX4_undo_9 : decode cX4_undo 9 = .ok (.ifCond .ne 9, 3) := by decide +kernel
theorem dX4_undo_12 : decode cX4_undo 12 = .ok (.aload_n 0, 1) := by decide +kernel
theorem dX4_undo_13 : decode cX4_undo 13 = .ok (.iconst 1, 1) := by decide +kernel
theorem dX4_undo_14 : decode cX4_undo 14 = .ok (.invokevirtual 40, 3) := by decide +kernel
theorem dX4_undo_17 : decode cX4_undo 17 = .ok (.ireturn, 1) := by decide +kernel
theorem dX4_undo_18 : decode cX4_undo 18 = .ok (.aload_n 0, 1) := by decide +kernel
theorem dX4_undo_19 : decode cX4_undo 19 = .ok (.dup, 1) := by decide +kernel
theorem dX4_undo_20 : decode cX4_undo 20 = .ok (.getfield 33, 3) := by decide +kernel
theorem dX4_undo_23 : decode cX4_undo 23 = .ok (.iconst 1, 1) := by decide +kernel
theorem dX4_undo_24 : decode cX4_undo 24 = .ok (.isub, 1) := by decide +kernel
theorem dX4_undo_25 : decode cX4_undo 25 = .ok (.putfield 33, 3) := by decide +kernel
theorem dX4_undo_28 : decode cX4_undo 28 = .ok (.aload_n 0, 1) := by decide +kernel
theorem dX4_undo_29 : decode cX4_undo 29 = .ok (.getfield 16, 3) := by decide +kernel
theorem dX4_undo_32 : decode cX4_undo 32 = .ok (.sipush 323, 3) := by decide +kernel
theorem dX4_undo_35 : decode cX4_undo 35 = .ok (.aload_n 0, 1) := by decide +kernel
theorem dX4_undo_36 : decode cX4_undo 36 = .ok (.getfield 33, 3) := by decide +kernel
theorem dX4_undo_39 : decode cX4_undo 39 = .ok (.imul, 1) := by decide +kernel
theorem dX4_undo_40 : decode cX4_undo 40 = .ok (.aload_n 0, 1) := by decide +kernel
theorem dX4_undo_41 : decode cX4_undo 41 = .ok (.getfield 7, 3) := by decide +kernel
theorem dX4_undo_44 : decode cX4_undo 44 = .ok (.iconst 0, 1) := by decide +kernel
theorem dX4_undo_45 : decode cX4_undo 45 = .ok (.invokestatic 36, 3) := by decide +kernel
theorem dX4_undo_48 : decode cX4_undo 48 = .ok (.aload_n 0, 1) := by decide +kernel
theorem dX4_undo_49 : decode cX4_undo 49 = .ok (.getfield 33, 3) := by decide +kernel
theorem dX4_undo_52 : decode cX4_undo 52 = .ok (.ireturn, 1) := by decide +kernel
theorem dX4_ones_0 : decode cX4_ones 0 = .ok (.iconst 0, 1) := by decide +kernel
theorem dX4_ones_1 : decode cX4_ones 1 = .ok (.istore_n 1, 1) := by decide +kernel
theorem dX4_ones_2 : decode cX4_ones 2 = .ok (.iload_n 0, 1) := by decide +kernel
theorem dX4_ones_3 : decode cX4_ones 3 = .ok (.istore_n 2, 1) := by decide +kernel
theorem dX4_ones_4 : decode cX4_ones 4 = .ok (.iload_n 2, 1) := by decide +kernel
theorem dX4_ones_5 : decode cX4_ones 5 = .ok (.ifCond .eq 15, 3) := by decide +kernel
theorem dX4_ones_8 : decode cX4_ones 8 = .ok (.iinc 1 1, 3) := by decide +kernel
theorem dX4_ones_11 : decode cX4_ones 11 = .ok (.iload_n 2, 1) := by decide +kernel
theorem dX4_ones_12 : decode cX4_ones 12 = .ok (.iload_n 2, 1) := by decide +kernel
theorem dX4_ones_13 : decode cX4_ones 13 = .ok (.iconst 1, 1) := by decide +kernel
theorem dX4_ones_14 : decode cX4_ones 14 = .ok (.isub, 1) := by decide +kernel
theorem dX4_ones_15 : decode cX4_ones 15 = .ok (.iand, 1) := by decide +kernel
theorem dX4_ones_16 : decode cX4_ones 16 = .ok (.istore_n 2, 1) := by decide +kernel
theorem dX4_ones_17 : decode cX4_ones 17 = .ok (.goto (-13), 3) := by decide +kernel
theorem dX4_ones_20 : decode cX4_ones 20 = .ok (.iload_n 1, 1) := by decide +kernel
theorem dX4_ones_21 : decode cX4_ones 21 = .ok (.ireturn, 1) := by decide +kernel
theorem dX4_worn_0 : decode cX4_worn 0 = .ok (.aload_n 0, 1) := by decide +kernel
theorem dX4_worn_1 : decode cX4_worn 1 = .ok (.bipush 25, 2) := by decide +kernel
theorem dX4_worn_3 : decode cX4_worn 3 = .ok (.bipush 13, 2) := by decide +kernel
theorem dX4_worn_5 : decode cX4_worn 5 = .ok (.iload_n 1, 1) := by decide +kernel
theorem dX4_worn_6 : decode cX4_worn 6 = .ok (.imul, 1) := by decide +kernel
theorem dX4_worn_7 : decode cX4_worn 7 = .ok (.iadd, 1) := by decide +kernel
theorem dX4_worn_8 : decode cX4_worn 8 = .ok (.iload_n 2, 1) := by decide +kernel
theorem dX4_worn_9 : decode cX4_worn 9 = .ok (.iadd, 1) := by decide +kernel
theorem dX4_worn_10 : decode cX4_worn 10 = .ok (.iaload, 1) := by decide +kernel
theorem dX4_worn_11 : decode cX4_worn 11 = .ok (.ireturn, 1) := by decide +kernel
set_option maxRecDepth 20000 in
theorem ggX4_stuck_X4_worn : GoodIn wsX4_stuck wsX4_worn := goodIn_r _ [4] (by decide +kernel) (by decide +kernel)
set_option maxRecDepth 20000 in
theorem gX4_stuck_X4_worn : GoodIn wsX4_stuck (va_wsS RX4 44 yX4_worn wsX4_worn) := goodIn_app (goodIn_of _ (by decide +kernel)) ggX4_stuck_X4_worn
theorem dX4_stuck_0 : decode cX4_stuck 0 = .ok (.iconst 0, 1) := by decide +kernel
theorem dX4_stuck_1 : decode cX4_stuck 1 = .ok (.istore_n 2, 1) := by decide +kernel
theorem dX4_stuck_2 : decode cX4_stuck 2 = .ok (.iconst 0, 1) := by decide +kernel
theorem dX4_stuck_3 : decode cX4_stuck 3 = .ok (.istore_n 3, 1) := by decide +kernel
theorem dX4_stuck_4 : decode cX4_stuck 4 = .ok (.iload_n 3, 1) := by decide +kernel
theorem dX4_stuck_5 : decode cX4_stuck 5 = .ok (.bipush 13, 2) := by decide +kernel
theorem dX4_stuck_7 : decode cX4_stuck 7 = .ok (.if_icmp .ge 31, 3) := by decide +kernel
theorem dX4_stuck_10 : decode cX4_stuck 10 = .ok (.iload_n 2, 1) := by decide +kernel
theorem dX4_stuck_11 : decode cX4_stuck 11 = .ok (.aload_n 0, 1) := by decide +kernel
theorem dX4_stuck_12 : decode cX4_stuck 12 = .ok (.iload_n 1, 1) := by decide +kernel
theorem dX4_stuck_13 : decode cX4_stuck 13 = .ok (.iload_n 3, 1) := by decide +kernel
theorem dX4_stuck_14 : decode cX4_stuck 14 = .ok (.invokestatic 44, 3) := by decide +kernel
theorem dX4_stuck_17 : decode cX4_stuck 17 = .ok (.aload_n 0, 1) := by decide +kernel
theorem dX4_stuck_18 : decode cX4_stuck 18 = .ok (.iconst 0, 1) := by decide +kernel
theorem dX4_stuck_19 : decode cX4_stuck 19 = .ok (.iaload, 1) := by decide +kernel
theorem dX4_stuck_20 : decode cX4_stuck 20 = .ok (.if_icmp .lt 9, 3) := by decide +kernel
theorem dX4_stuck_23 : decode cX4_stuck 23 = .ok (.iconst 1, 1) := by decide +kernel
theorem dX4_stuck_24 : decode cX4_stuck 24 = .ok (.iload_n 3, 1) := by decide +kernel
theorem dX4_stuck_25 : decode cX4_stuck 25 = .ok (.ishl, 1) := by decide +kernel
theorem dX4_stuck_26 : decode cX4_stuck 26 = .ok (.goto 4, 3) := by decide +kernel
theorem dX4_stuck_29 : decode cX4_stuck 29 = .ok (.iconst 0, 1) := by decide +kernel
theorem dX4_stuck_30 : decode cX4_stuck 30 = .ok (.ior, 1) := by decide +kernel
theorem dX4_stuck_31 : decode cX4_stuck 31 = .ok (.istore_n 2, 1) := by decide +kernel
theorem dX4_stuck_32 : decode cX4_stuck 32 = .ok (.iinc 3 1, 3) := by decide +kernel
theorem dX4_stuck_35 : decode cX4_stuck 35 = .ok (.goto (-31), 3) := by decide +kernel
theorem dX4_stuck_38 : decode cX4_stuck 38 = .ok (.iload_n 2, 1) := by decide +kernel
theorem dX4_stuck_39 : decode cX4_stuck 39 = .ok (.ireturn, 1) := by decide +kernel
set_option maxRecDepth 20000 in
theorem ggX4_allWear_X4_worn : GoodIn wsX4_allWear wsX4_worn := goodIn_r _ [4] (by decide +kernel) (by decide +kernel)
set_option maxRecDepth 20000 in
theorem gX4_allWear_X4_worn : GoodIn wsX4_allWear (va_wsS RX4 44 yX4_worn wsX4_worn) := goodIn_app (goodIn_of _ (by decide +kernel)) ggX4_allWear_X4_worn
theorem dX4_allWear_0 : decode cX4_allWear 0 = .ok (.iconst 0, 1) := by decide +kernel
theorem dX4_allWear_1 : decode cX4_allWear 1 = .ok (.istore_n 2, 1) := by decide +kernel
theorem dX4_allWear_2 : decode cX4_allWear 2 = .ok (.iconst 0, 1) := by decide +kernel
theorem dX4_allWear_3 : decode cX4_allWear 3 = .ok (.istore_n 3, 1) := by decide +kernel
theorem dX4_allWear_4 : decode cX4_allWear 4 = .ok (.iload_n 3, 1) := by decide +kernel
theorem dX4_allWear_5 : decode cX4_allWear 5 = .ok (.bipush 13, 2) := by decide +kernel
theorem dX4_allWear_7 : decode cX4_allWear 7 = .ok (.if_icmp .ge 18, 3) := by decide +kernel
theorem dX4_allWear_10 : decode cX4_allWear 10 = .ok (.iload_n 2, 1) := by decide +kernel
theorem dX4_allWear_11 : decode cX4_allWear 11 = .ok (.aload_n 0, 1) := by decide +kernel
theorem dX4_allWear_12 : decode cX4_allWear 12 = .ok (.iload_n 1, 1) := by decide +kernel
theorem dX4_allWear_13 : decode cX4_allWear 13 = .ok (.iload_n 3, 1) := by decide +kernel
theorem dX4_allWear_14 : decode cX4_allWear 14 = .ok (.invokestatic 44, 3) := by decide +kernel
theorem dX4_allWear_17 : decode cX4_allWear 17 = .ok (.iadd, 1) := by decide +kernel
theorem dX4_allWear_18 : decode cX4_allWear 18 = .ok (.istore_n 2, 1) := by decide +kernel
theorem dX4_allWear_19 : decode cX4_allWear 19 = .ok (.iinc 3 1, 3) := by decide +kernel
theorem dX4_allWear_22 : decode cX4_allWear 22 = .ok (.goto (-18), 3) := by decide +kernel
theorem dX4_allWear_25 : decode cX4_allWear 25 = .ok (.iload_n 2, 1) := by decide +kernel
theorem dX4_allWear_26 : decode cX4_allWear 26 = .ok (.ireturn, 1) := by decide +kernel
theorem dX4_wordOf_0 : decode cX4_wordOf 0 = .ok (.iconst (-1), 1) := by decide +kernel
theorem dX4_wordOf_1 : decode cX4_wordOf 1 = .ok (.istore_n 2, 1) := by decide +kernel
theorem dX4_wordOf_2 : decode cX4_wordOf 2 = .ok (.iconst 0, 1) := by decide +kernel
theorem dX4_wordOf_3 : decode cX4_wordOf 3 = .ok (.istore_n 3, 1) := by decide +kernel
theorem dX4_wordOf_4 : decode cX4_wordOf 4 = .ok (.iload_n 3, 1) := by decide +kernel
theorem dX4_wordOf_5 : decode cX4_wordOf 5 = .ok (.bipush 16, 2) := by decide +kernel
theorem dX4_wordOf_7 : decode cX4_wordOf 7 = .ok (.if_icmp .ge 26, 3) := by decide +kernel
theorem dX4_wordOf_10 : decode cX4_wordOf 10 = .ok (.aload_n 0, 1) := by decide +kernel
theorem dX4_wordOf_11 : decode cX4_wordOf 11 = .ok (.sipush 259, 3) := by decide +kernel
theorem dX4_wordOf_14 : decode cX4_wordOf 14 = .ok (.iload_n 3, 1) := by decide +kernel
theorem dX4_wordOf_15 : decode cX4_wordOf 15 = .ok (.iadd, 1) := by decide +kernel
theorem dX4_wordOf_16 : decode cX4_wordOf 16 = .ok (.iaload, 1) := by decide +kernel
theorem dX4_wordOf_17 : decode cX4_wordOf 17 = .ok (.iload_n 1, 1) := by decide +kernel
theorem dX4_wordOf_18 : decode cX4_wordOf 18 = .ok (.if_icmp .ne 7, 3) := by decide +kernel
theorem dX4_wordOf_21 : decode cX4_wordOf 21 = .ok (.iload_n 3, 1) := by decide +kernel
theorem dX4_wordOf_22 : decode cX4_wordOf 22 = .ok (.goto 4, 3) := by decide +kernel
theorem dX4_wordOf_25 : decode cX4_wordOf 25 = .ok (.iload_n 2, 1) := by decide +kernel
theorem dX4_wordOf_26 : decode cX4_wordOf 26 = .ok (.istore_n 2, 1) := by decide +kernel
theorem dX4_wordOf_27 : decode cX4_wordOf 27 = .ok (.iinc 3 1, 3) := by decide +kernel
theorem dX4_wordOf_30 : decode cX4_wordOf 30 = .ok (.goto (-26), 3) := by decide +kernel
theorem dX4_wordOf_33 : decode cX4_wordOf 33 = .ok (.iload_n 2, 1) := by decide +kernel
theorem dX4_wordOf_34 : decode cX4_wordOf 34 = .ok (.ireturn, 1) := by decide +kernel
theorem dX4_reads_0 : decode cX4_reads 0 = .ok (.aload_n 0, 1) := by decide +kernel
theorem dX4_reads_1 : decode cX4_reads 1 = .ok (.bipush 7, 2) := by decide +kernel
theorem dX4_reads_3 : decode cX4_reads 3 = .ok (.aload_n 0, 1) := by decide +kernel
theorem dX4_reads_4 : decode cX4_reads 4 = .ok (.sipush 259, 3) := by decide +kernel
theorem dX4_reads_7 : decode cX4_reads 7 = .ok (.iload_n 1, 1) := by decide +kernel
theorem dX4_reads_8 : decode cX4_reads 8 = .ok (.iadd, 1) := by decide +kernel
theorem dX4_reads_9 : decode cX4_reads 9 = .ok (.iaload, 1) := by decide +kernel
theorem dX4_reads_10 : decode cX4_reads 10 = .ok (.iadd, 1) := by decide +kernel
theorem dX4_reads_11 : decode cX4_reads 11 = .ok (.iaload, 1) := by decide +kernel
theorem dX4_reads_12 : decode cX4_reads 12 = .ok (.istore_n 2, 1) := by decide +kernel
theorem dX4_reads_13 : decode cX4_reads 13 = .ok (.iload_n 2, 1) := by decide +kernel
theorem dX4_reads_14 : decode cX4_reads 14 = .ok (.sipush 4096, 3) := by decide +kernel
theorem dX4_reads_17 : decode cX4_reads 17 = .ok (.if_icmp .ge 7, 3) := by decide +kernel
theorem dX4_reads_20 : decode cX4_reads 20 = .ok (.iload_n 2, 1) := by decide +kernel
theorem dX4_reads_21 : decode cX4_reads 21 = .ok (.goto 10, 3) := by decide +kernel
theorem dX4_reads_24 : decode cX4_reads 24 = .ok (.iload_n 2, 1) := by decide +kernel
theorem dX4_reads_25 : decode cX4_reads 25 = .ok (.iconst (-1), 1) := by decide +kernel
theorem dX4_reads_26 : decode cX4_reads 26 = .ok (.ixor, 1) := by decide +kernel
theorem dX4_reads_27 : decode cX4_reads 27 = .ok (.sipush 4095, 3) := by decide +kernel
theorem dX4_reads_30 : decode cX4_reads 30 = .ok (.iand, 1) := by decide +kernel
theorem dX4_reads_31 : decode cX4_reads 31 = .ok (.ireturn, 1) := by decide +kernel
set_option maxRecDepth 20000 in
theorem ggX4_taken_X4_ones : GoodIn wsX4_taken wsX4_ones := goodIn_r _ [4] (by decide +kernel) (by decide +kernel)
set_option maxRecDepth 20000 in
theorem gX4_taken_X4_ones : GoodIn wsX4_taken (va_wsS RX4 48 yX4_ones wsX4_ones) := goodIn_app (goodIn_of _ (by decide +kernel)) ggX4_taken_X4_ones
theorem dX4_taken_0 : decode cX4_taken 0 = .ok (.aload_n 0, 1) := by decide +kernel
theorem dX4_taken_1 : decode cX4_taken 1 = .ok (.bipush 7, 2) := by decide +kernel
theorem dX4_taken_3 : decode cX4_taken 3 = .ok (.iload_n 1, 1) := by decide +kernel
theorem dX4_taken_4 : decode cX4_taken 4 = .ok (.iadd, 1) := by decide +kernel
theorem dX4_taken_5 : decode cX4_taken 5 = .ok (.iaload, 1) := by decide +kernel
theorem dX4_taken_6 : decode cX4_taken 6 = .ok (.istore 4, 2) := by decide +kernel
theorem dX4_taken_8 : decode cX4_taken 8 = .ok (.iload_n 2, 1) := by decide +kernel
theorem dX4_taken_9 : decode cX4_taken 9 = .ok (.iconst (-1), 1) := by decide +kernel
theorem dX4_taken_10 : decode cX4_taken 10 = .ok (.ixor, 1) := by decide +kernel
theorem dX4_taken_11 : decode cX4_taken 11 = .ok (.sipush 4095, 3) := by decide +kernel
theorem dX4_taken_14 : decode cX4_taken 14 = .ok (.iand, 1) := by decide +kernel
theorem dX4_taken_15 : decode cX4_taken 15 = .ok (.sipush 4096, 3) := by decide +kernel
theorem dX4_taken_18 : decode cX4_taken 18 = .ok (.ior, 1) := by decide +kernel
theorem dX4_taken_19 : decode cX4_taken 19 = .ok (.istore 5, 2) := by decide +kernel
theorem dX4_taken_21 : decode cX4_taken 21 = .ok (.iload 4, 2) := by decide +kernel
theorem dX4_taken_23 : decode cX4_taken 23 = .ok (.iload_n 2, 1) := by decide +kernel
theorem dX4_taken_24 : decode cX4_taken 24 = .ok (.ixor, 1) := by decide +kernel
theorem dX4_taken_25 : decode cX4_taken 25 = .ok (.iload_n 3, 1) := by decide +kernel
theorem dX4_taken_26 : decode cX4_taken 26 = .ok (.iand, 1) := by decide +kernel
theorem dX4_taken_27 : decode cX4_taken 27 = .ok (.ifCond .ne 7, 3) := by decide +kernel
theorem dX4_taken_30 : decode cX4_taken 30 = .ok (.iconst 1, 1) := by decide +kernel
theorem dX4_taken_31 : decode cX4_taken 31 = .ok (.goto 4, 3) := by decide +kernel
theorem dX4_taken_34 : decode cX4_taken 34 = .ok (.iconst 0, 1) := by decide +kernel
theorem dX4_taken_35 : decode cX4_taken 35 = .ok (.istore 6, 2) := by decide +kernel
theorem dX4_taken_37 : decode cX4_taken 37 = .ok (.iload 4, 2) := by decide +kernel
theorem dX4_taken_39 : decode cX4_taken 39 = .ok (.iload 5, 2) := by decide +kernel
theorem dX4_taken_41 : decode cX4_taken 41 = .ok (.ixor, 1) := by decide +kernel
theorem dX4_taken_42 : decode cX4_taken 42 = .ok (.iload_n 3, 1) := by decide +kernel
theorem dX4_taken_43 : decode cX4_taken 43 = .ok (.iand, 1) := by decide +kernel
theorem dX4_taken_44 : decode cX4_taken 44 = .ok (.ifCond .ne 7, 3) := by decide +kernel
theorem dX4_taken_47 : decode cX4_taken 47 = .ok (.iconst 1, 1) := by decide +kernel
theorem dX4_taken_48 : decode cX4_taken 48 = .ok (.goto 4, 3) := by decide +kernel
theorem dX4_taken_51 : decode cX4_taken 51 = .ok (.iconst 0, 1) := by decide +kernel
theorem dX4_taken_52 : decode cX4_taken 52 = .ok (.istore 7, 2) := by decide +kernel
theorem dX4_taken_54 : decode cX4_taken 54 = .ok (.iload 6, 2) := by decide +kernel
theorem dX4_taken_56 : decode cX4_taken 56 = .ok (.ifCond .eq 8, 3) := by decide +kernel
theorem dX4_taken_59 : decode cX4_taken 59 = .ok (.iload 7, 2) := by decide +kernel
theorem dX4_taken_61 : decode cX4_taken 61 = .ok (.ifCond .ne 24, 3) := by decide +kernel
theorem dX4_taken_64 : decode cX4_taken 64 = .ok (.iload 6, 2) := by decide +kernel
theorem dX4_taken_66 : decode cX4_taken 66 = .ok (.ifCond .eq 7, 3) := by decide +kernel
theorem dX4_taken_69 : decode cX4_taken 69 = .ok (.iload_n 2, 1) := by decide +kernel
theorem dX4_taken_70 : decode cX4_taken 70 = .ok (.goto 14, 3) := by decide +kernel
theorem dX4_taken_73 : decode cX4_taken 73 = .ok (.iload 7, 2) := by decide +kernel
theorem dX4_taken_75 : decode cX4_taken 75 = .ok (.ifCond .eq 8, 3) := by decide +kernel
theorem dX4_taken_78 : decode cX4_taken 78 = .ok (.iload 5, 2) := by decide +kernel
theorem dX4_taken_80 : decode cX4_taken 80 = .ok (.goto 4, 3) := by decide +kernel
theorem dX4_taken_83 : decode cX4_taken 83 = .ok (.iconst (-1), 1) := by decide +kernel
theorem dX4_taken_84 : decode cX4_taken 84 = .ok (.ireturn, 1) := by decide +kernel
theorem dX4_taken_85 : decode cX4_taken 85 = .ok (.iload 4, 2) := by decide +kernel
theorem dX4_taken_87 : decode cX4_taken 87 = .ok (.iload_n 2, 1) := by decide +kernel
theorem dX4_taken_88 : decode cX4_taken 88 = .ok (.ixor, 1) := by decide +kernel
theorem dX4_taken_89 : decode cX4_taken 89 = .ok (.invokestatic 48, 3) := by decide +kernel
theorem dX4_taken_92 : decode cX4_taken 92 = .ok (.istore 8, 2) := by decide +kernel
theorem dX4_taken_94 : decode cX4_taken 94 = .ok (.iload 4, 2) := by decide +kernel
theorem dX4_taken_96 : decode cX4_taken 96 = .ok (.iload 5, 2) := by decide +kernel
theorem dX4_taken_98 : decode cX4_taken 98 = .ok (.ixor, 1) := by decide +kernel
theorem dX4_taken_99 : decode cX4_taken 99 = .ok (.invokestatic 48, 3) := by decide +kernel
theorem dX4_taken_102 : decode cX4_taken 102 = .ok (.istore 9, 2) := by decide +kernel
theorem dX4_taken_104 : decode cX4_taken 104 = .ok (.iload 8, 2) := by decide +kernel
theorem dX4_taken_106 : decode cX4_taken 106 = .ok (.iload 9, 2) := by decide +kernel
theorem dX4_taken_108 : decode cX4_taken 108 = .ok (.if_icmp .lt 18, 3) := by decide +kernel
theorem dX4_taken_111 : decode cX4_taken 111 = .ok (.iload 8, 2) := by decide +kernel
theorem dX4_taken_113 : decode cX4_taken 113 = .ok (.iload 9, 2) := by decide +kernel
theorem dX4_taken_115 : decode cX4_taken 115 = .ok (.if_icmp .ne 15, 3) := by decide +kernel
theorem dX4_taken_118 : decode cX4_taken 118 = .ok (.iload 4, 2) := by decide +kernel
theorem dX4_taken_120 : decode cX4_taken 120 = .ok (.sipush 4096, 3) := by decide +kernel
theorem dX4_taken_123 : decode cX4_taken 123 = .ok (.if_icmp .ge 7, 3) := by decide +kernel
theorem dX4_taken_126 : decode cX4_taken 126 = .ok (.iload_n 2, 1) := by decide +kernel
theorem dX4_taken_127 : decode cX4_taken 127 = .ok (.goto 5, 3) := by decide +kernel
theorem dX4_taken_130 : decode cX4_taken 130 = .ok (.iload 5, 2) := by decide +kernel
theorem dX4_taken_132 : decode cX4_taken 132 = .ok (.ireturn, 1) := by decide +kernel
set_option maxRecDepth 20000 in
theorem ggX4_costs_X4_taken : GoodIn wsX4_costs wsX4_taken := goodIn_r _ [4, 5, 6, 3, 7] (by decide +kernel) (by decide +kernel)
set_option maxRecDepth 20000 in
theorem gX4_costs_X4_taken : GoodIn wsX4_costs (va_wsS RX4 51 yX4_taken wsX4_taken) := goodIn_app (goodIn_of _ (by decide +kernel)) ggX4_costs_X4_taken
set_option maxRecDepth 20000 in
theorem ggX4_costs_X4_ones : GoodIn wsX4_costs wsX4_ones := goodIn_r _ [7] (by decide +kernel) (by decide +kernel)
set_option maxRecDepth 20000 in
theorem gX4_costs_X4_ones : GoodIn wsX4_costs (va_wsS RX4 48 yX4_ones wsX4_ones) := goodIn_app (goodIn_of _ (by decide +kernel)) ggX4_costs_X4_ones
theorem dX4_costs_0 : decode cX4_costs 0 = .ok (.aload_n 0, 1) := by decide +kernel
theorem dX4_costs_1 : decode cX4_costs 1 = .ok (.iload_n 1, 1) := by decide +kernel
theorem dX4_costs_2 : decode cX4_costs 2 = .ok (.iload_n 2, 1) := by decide +kernel
theorem dX4_costs_3 : decode cX4_costs 3 = .ok (.iload_n 3, 1) := by decide +kernel
theorem dX4_costs_4 : decode cX4_costs 4 = .ok (.invokestatic 51, 3) := by decide +kernel
theorem dX4_costs_7 : decode cX4_costs 7 = .ok (.istore 4, 2) := by decide +kernel
theorem dX4_costs_9 : decode cX4_costs 9 = .ok (.iload 4, 2) := by decide +kernel
theorem dX4_costs_11 : decode cX4_costs 11 = .ok (.iconst (-1), 1) := by decide +kernel
theorem dX4_costs_12 : decode cX4_costs 12 = .ok (.if_icmp .ne 7, 3) := by decide +kernel
theorem dX4_costs_15 : decode cX4_costs 15 = .ok (.iconst (-1), 1) := by decide +kernel
theorem dX4_costs_16 : decode cX4_costs 16 = .ok (.goto 15, 3) := by decide +kernel
theorem dX4_costs_19 : decode cX4_costs 19 = .ok (.aload_n 0, 1) := by decide +kernel
theorem dX4_costs_20 : decode cX4_costs 20 = .ok (.bipush 7, 2) := by decide +kernel
theorem dX4_costs_22 : decode cX4_costs 22 = .ok (.iload_n 1, 1) := by decide +kernel
theorem dX4_costs_23 : decode cX4_costs 23 = .ok (.iadd, 1) := by decide +kernel
theorem dX4_costs_24 : decode cX4_costs 24 = .ok (.iaload, 1) := by decide +kernel
theorem dX4_costs_25 : decode cX4_costs 25 = .ok (.iload 4, 2) := by decide +kernel
theorem dX4_costs_27 : decode cX4_costs 27 = .ok (.ixor, 1) := by decide +kernel
theorem dX4_costs_28 : decode cX4_costs 28 = .ok (.invokestatic 48, 3) := by decide +kernel
theorem dX4_costs_31 : decode cX4_costs 31 = .ok (.ireturn, 1) := by decide +kernel
set_option maxRecDepth 20000 in
theorem ggX4_bars_X4_stuck : GoodIn wsX4_bars wsX4_stuck := goodIn_r _ [4, 5, 6, 3, 7] (by decide +kernel) (by decide +kernel)
set_option maxRecDepth 20000 in
theorem gX4_bars_X4_stuck : GoodIn wsX4_bars (va_wsS RX4 55 yX4_stuck wsX4_stuck) := goodIn_app (goodIn_of _ (by decide +kernel)) ggX4_bars_X4_stuck
set_option maxRecDepth 20000 in
theorem ggX4_bars_X4_taken : GoodIn wsX4_bars wsX4_taken := goodIn_r _ [10, 11, 12, 3, 13] (by decide +kernel) (by decide +kernel)
set_option maxRecDepth 20000 in
theorem gX4_bars_X4_taken : GoodIn wsX4_bars (va_wsS RX4 51 yX4_taken wsX4_taken) := goodIn_app (goodIn_of _ (by decide +kernel)) ggX4_bars_X4_taken
theorem dX4_bars_0 : decode cX4_bars 0 = .ok (.aload_n 0, 1) := by decide +kernel
theorem dX4_bars_1 : decode cX4_bars 1 = .ok (.iload_n 1, 1) := by decide +kernel
theorem dX4_bars_2 : decode cX4_bars 2 = .ok (.iload_n 2, 1) := by decide +kernel
theorem dX4_bars_3 : decode cX4_bars 3 = .ok (.aload_n 0, 1) := by decide +kernel
theorem dX4_bars_4 : decode cX4_bars 4 = .ok (.iload_n 1, 1) := by decide +kernel
theorem dX4_bars_5 : decode cX4_bars 5 = .ok (.invokestatic 55, 3) := by decide +kernel
theorem dX4_bars_8 : decode cX4_bars 8 = .ok (.invokestatic 51, 3) := by decide +kernel
theorem dX4_bars_11 : decode cX4_bars 11 = .ok (.iconst (-1), 1) := by decide +kernel
theorem dX4_bars_12 : decode cX4_bars 12 = .ok (.if_icmp .ne 7, 3) := by decide +kernel
theorem dX4_bars_15 : decode cX4_bars 15 = .ok (.iconst 1, 1) := by decide +kernel
theorem dX4_bars_16 : decode cX4_bars 16 = .ok (.goto 4, 3) := by decide +kernel
theorem dX4_bars_19 : decode cX4_bars 19 = .ok (.iconst 0, 1) := by decide +kernel
theorem dX4_bars_20 : decode cX4_bars 20 = .ok (.ireturn, 1) := by decide +kernel
set_option maxRecDepth 20000 in
theorem ggX4_free_X4_wordOf : GoodIn wsX4_free wsX4_wordOf := goodIn_r _ [4] (by decide +kernel) (by decide +kernel)
set_option maxRecDepth 20000 in
theorem gX4_free_X4_wordOf : GoodIn wsX4_free (va_wsS RX4 59 yX4_wordOf wsX4_wordOf) := goodIn_app (goodIn_of _ (by decide +kernel)) ggX4_free_X4_wordOf
set_option maxRecDepth 20000 in
theorem ggX4_free_X4_bars : GoodIn wsX4_free wsX4_bars := goodIn_r _ [7, 8, 9, 3, 10, 11, 12, 13, 14, 15, 16, 17, 18, 19] (by decide +kernel) (by decide +kernel)
set_option maxRecDepth 20000 in
theorem gX4_free_X4_bars : GoodIn wsX4_free (va_wsS RX4 62 yX4_bars wsX4_bars) := goodIn_app (goodIn_of _ (by decide +kernel)) ggX4_free_X4_bars
set_option maxRecDepth 20000 in
theorem ggX4_free_X4_allWear : GoodIn wsX4_free wsX4_allWear := goodIn_r _ [22, 11, 12, 3, 13] (by decide +kernel) (by decide +kernel)
set_option maxRecDepth 20000 in
theorem gX4_free_X4_allWear : GoodIn wsX4_free (va_wsS RX4 66 yX4_allWear wsX4_allWear) := goodIn_app (goodIn_of _ (by decide +kernel)) ggX4_free_X4_allWear
theorem dX4_free_0 : decode cX4_free 0 = .ok (.iconst (-1), 1) := by decide +kernel
theorem dX4_free_1 : decode cX4_free 1 = .ok (.istore_n 2, 1) := by decide +kernel
theorem dX4_free_2 : decode cX4_free 2 = .ok (.iconst 0, 1) := by decide +kernel
theorem dX4_free_3 : decode cX4_free 3 = .ok (.istore_n 3, 1) := by decide +kernel
theorem dX4_free_4 : decode cX4_free 4 = .ok (.iload_n 3, 1) := by decide +kernel
theorem dX4_free_5 : decode cX4_free 5 = .ok (.bipush 18, 2) := by decide +kernel
theorem dX4_free_7 : decode cX4_free 7 = .ok (.if_icmp .ge 68, 3) := by decide +kernel
theorem dX4_free_10 : decode cX4_free 10 = .ok (.aload_n 0, 1) := by decide +kernel
theorem dX4_free_11 : decode cX4_free 11 = .ok (.iload_n 3, 1) := by decide +kernel
theorem dX4_free_12 : decode cX4_free 12 = .ok (.invokestatic 59, 3) := by decide +kernel
theorem dX4_free_15 : decode cX4_free 15 = .ok (.iconst (-1), 1) := by decide +kernel
theorem dX4_free_16 : decode cX4_free 16 = .ok (.if_icmp .ne 21, 3) := by decide +kernel
theorem dX4_free_19 : decode cX4_free 19 = .ok (.iload_n 1, 1) := by decide +kernel
theorem dX4_free_20 : decode cX4_free 20 = .ok (.iconst (-1), 1) := by decide +kernel
theorem dX4_free_21 : decode cX4_free 21 = .ok (.if_icmp .eq 12, 3) := by decide +kernel
theorem dX4_free_24 : decode cX4_free 24 = .ok (.aload_n 0, 1) := by decide +kernel
theorem dX4_free_25 : decode cX4_free 25 = .ok (.iload_n 3, 1) := by decide +kernel
theorem dX4_free_26 : decode cX4_free 26 = .ok (.iload_n 1, 1) := by decide +kernel
theorem dX4_free_27 : decode cX4_free 27 = .ok (.invokestatic 62, 3) := by decide +kernel
theorem dX4_free_30 : decode cX4_free 30 = .ok (.ifCond .ne 7, 3) := by decide +kernel
theorem dX4_free_33 : decode cX4_free 33 = .ok (.iconst 1, 1) := by decide +kernel
theorem dX4_free_34 : decode cX4_free 34 = .ok (.goto 4, 3) := by decide +kernel
theorem dX4_free_37 : decode cX4_free 37 = .ok (.iconst 0, 1) := by decide +kernel
theorem dX4_free_38 : decode cX4_free 38 = .ok (.istore 4, 2) := by decide +kernel
theorem dX4_free_40 : decode cX4_free 40 = .ok (.iload 4, 2) := by decide +kernel
theorem dX4_free_42 : decode cX4_free 42 = .ok (.ifCond .eq 25, 3) := by decide +kernel
theorem dX4_free_45 : decode cX4_free 45 = .ok (.iload_n 2, 1) := by decide +kernel
theorem dX4_free_46 : decode cX4_free 46 = .ok (.iconst (-1), 1) := by decide +kernel
theorem dX4_free_47 : decode cX4_free 47 = .ok (.if_icmp .eq 16, 3) := by decide +kernel
theorem dX4_free_50 : decode cX4_free 50 = .ok (.aload_n 0, 1) := by decide +kernel
theorem dX4_free_51 : decode cX4_free 51 = .ok (.iload_n 3, 1) := by decide +kernel
theorem dX4_free_52 : decode cX4_free 52 = .ok (.invokestatic 66, 3) := by decide +kernel
theorem dX4_free_55 : decode cX4_free 55 = .ok (.aload_n 0, 1) := by decide +kernel
theorem dX4_free_56 : decode cX4_free 56 = .ok (.iload_n 2, 1) := by decide +kernel
theorem dX4_free_57 : decode cX4_free 57 = .ok (.invokestatic 66, 3) := by decide +kernel
theorem dX4_free_60 : decode cX4_free 60 = .ok (.if_icmp .ge 7, 3) := by decide +kernel
theorem dX4_free_63 : decode cX4_free 63 = .ok (.iload_n 3, 1) := by decide +kernel
theorem dX4_free_64 : decode cX4_free 64 = .ok (.goto 4, 3) := by decide +kernel
theorem dX4_free_67 : decode cX4_free 67 = .ok (.iload_n 2, 1) := by decide +kernel
theorem dX4_free_68 : decode cX4_free 68 = .ok (.istore_n 2, 1) := by decide +kernel
theorem dX4_free_69 : decode cX4_free 69 = .ok (.iinc 3 1, 3) := by decide +kernel
theorem dX4_free_72 : decode cX4_free 72 = .ok (.goto (-68), 3) := by decide +kernel
theorem dX4_free_75 : decode cX4_free 75 = .ok (.iload_n 2, 1) := by decide +kernel
theorem dX4_free_76 : decode cX4_free 76 = .ok (.ireturn, 1) := by decide +kernel
theorem dX4_isHot_0 : decode cX4_isHot 0 = .ok (.aload_n 0, 1) := by decide +kernel
theorem dX4_isHot_1 : decode cX4_isHot 1 = .ok (.iconst 1, 1) := by decide +kernel
theorem dX4_isHot_2 : decode cX4_isHot 2 = .ok (.iaload, 1) := by decide +kernel
theorem dX4_isHot_3 : decode cX4_isHot 3 = .ok (.ifCond .le 20, 3) := by decide +kernel
theorem dX4_isHot_6 : decode cX4_isHot 6 = .ok (.aload_n 0, 1) := by decide +kernel
theorem dX4_isHot_7 : decode cX4_isHot 7 = .ok (.sipush 275, 3) := by decide +kernel
theorem dX4_isHot_10 : decode cX4_isHot 10 = .ok (.iload_n 1, 1) := by decide +kernel
theorem dX4_isHot_11 : decode cX4_isHot 11 = .ok (.iadd, 1) := by decide +kernel
theorem dX4_isHot_12 : decode cX4_isHot 12 = .ok (.iaload, 1) := by decide +kernel
theorem dX4_isHot_13 : decode cX4_isHot 13 = .ok (.aload_n 0, 1) := by decide +kernel
theorem dX4_isHot_14 : decode cX4_isHot 14 = .ok (.iconst 1, 1) := by decide +kernel
theorem dX4_isHot_15 : decode cX4_isHot 15 = .ok (.iaload, 1) := by decide +kernel
theorem dX4_isHot_16 : decode cX4_isHot 16 = .ok (.if_icmp .lt 7, 3) := by decide +kernel
theorem dX4_isHot_19 : decode cX4_isHot 19 = .ok (.iconst 1, 1) := by decide +kernel
theorem dX4_isHot_20 : decode cX4_isHot 20 = .ok (.goto 4, 3) := by decide +kernel
theorem dX4_isHot_23 : decode cX4_isHot 23 = .ok (.iconst 0, 1) := by decide +kernel
theorem dX4_isHot_24 : decode cX4_isHot 24 = .ok (.ireturn, 1) := by decide +kernel
set_option maxRecDepth 20000 in
theorem ggX4_goesTo_X4_isHot : GoodIn wsX4_goesTo wsX4_isHot := goodIn_r _ [4] (by decide +kernel) (by decide +kernel)
set_option maxRecDepth 20000 in
theorem gX4_goesTo_X4_isHot : GoodIn wsX4_goesTo (va_wsS RX4 69 yX4_isHot wsX4_isHot) := goodIn_app (goodIn_of _ (by decide +kernel)) ggX4_goesTo_X4_isHot
set_option maxRecDepth 20000 in
theorem ggX4_goesTo_X4_free : GoodIn wsX4_goesTo wsX4_free := goodIn_r _ [7, 8, 9, 3, 10, 11, 12, 13, 14, 15, 16, 17, 18, 19, 20, 21, 22, 23, 24, 25, 26, 27, 28] (by decide +kernel) (by decide +kernel)
set_option maxRecDepth 20000 in
theorem gX4_goesTo_X4_free : GoodIn wsX4_goesTo (va_wsS RX4 73 yX4_free wsX4_free) := goodIn_app (goodIn_of _ (by decide +kernel)) ggX4_goesTo_X4_free
set_option maxRecDepth 20000 in
theorem ggX4_goesTo_X4_bars : GoodIn wsX4_goesTo wsX4_bars := goodIn_r _ [13, 14, 15, 3, 16, 17, 18, 19, 20, 21, 22, 23, 24, 25] (by decide +kernel) (by decide +kernel)
set_option maxRecDepth 20000 in
theorem gX4_goesTo_X4_bars : GoodIn wsX4_goesTo (va_wsS RX4 62 yX4_bars wsX4_bars) := goodIn_app (goodIn_of _ (by decide +kernel)) ggX4_goesTo_X4_bars
theorem dX4_goesTo_0 : decode cX4_goesTo 0 = .ok (.aload_n 0, 1) := by decide +kernel
theorem dX4_goesTo_1 : decode cX4_goesTo 1 = .ok (.sipush 259, 3) := by decide +kernel
theorem dX4_goesTo_4 : decode cX4_goesTo 4 = .ok (.iload_n 1, 1) := by decide +kernel
theorem dX4_goesTo_5 : decode cX4_goesTo 5 = .ok (.iadd, 1) := by decide +kernel
theorem dX4_goesTo_6 : decode cX4_goesTo 6 = .ok (.iaload, 1) := by decide +kernel
theorem dX4_goesTo_7 : decode cX4_goesTo 7 = .ok (.istore_n 3, 1) := by decide +kernel
theorem dX4_goesTo_8 : decode cX4_goesTo 8 = .ok (.aload_n 0, 1) := by decide +kernel
theorem dX4_goesTo_9 : decode cX4_goesTo 9 = .ok (.iload_n 1, 1) := by decide +kernel
theorem dX4_goesTo_10 : decode cX4_goesTo 10 = .ok (.invokestatic 69, 3) := by decide +kernel
theorem dX4_goesTo_13 : decode cX4_goesTo 13 = .ok (.ifCond .eq 11, 3) := by decide +kernel
theorem dX4_goesTo_16 : decode cX4_goesTo 16 = .ok (.aload_n 0, 1) := by decide +kernel
theorem dX4_goesTo_17 : decode cX4_goesTo 17 = .ok (.iload_n 2, 1) := by decide +kernel
theorem dX4_goesTo_18 : decode cX4_goesTo 18 = .ok (.invokestatic 73, 3) := by decide +kernel
theorem dX4_goesTo_21 : decode cX4_goesTo 21 = .ok (.goto 4, 3) := by decide +kernel
theorem dX4_goesTo_24 : decode cX4_goesTo 24 = .ok (.iconst (-1), 1) := by decide +kernel
theorem dX4_goesTo_25 : decode cX4_goesTo 25 = .ok (.istore 4, 2) := by decide +kernel
theorem dX4_goesTo_27 : decode cX4_goesTo 27 = .ok (.iload 4, 2) := by decide +kernel
theorem dX4_goesTo_29 : decode cX4_goesTo 29 = .ok (.iconst (-1), 1) := by decide +kernel
theorem dX4_goesTo_30 : decode cX4_goesTo 30 = .ok (.if_icmp .eq 6, 3) := by decide +kernel
theorem dX4_goesTo_33 : decode cX4_goesTo 33 = .ok (.iload 4, 2) := by decide +kernel
theorem dX4_goesTo_35 : decode cX4_goesTo 35 = .ok (.ireturn, 1) := by decide +kernel
theorem dX4_goesTo_36 : decode cX4_goesTo 36 = .ok (.aload_n 0, 1) := by decide +kernel
theorem dX4_goesTo_37 : decode cX4_goesTo 37 = .ok (.iload_n 3, 1) := by decide +kernel
theorem dX4_goesTo_38 : decode cX4_goesTo 38 = .ok (.iload_n 2, 1) := by decide +kernel
theorem dX4_goesTo_39 : decode cX4_goesTo 39 = .ok (.invokestatic 62, 3) := by decide +kernel
theorem dX4_goesTo_42 : decode cX4_goesTo 42 = .ok (.ifCond .ne 7, 3) := by decide +kernel
theorem dX4_goesTo_45 : decode cX4_goesTo 45 = .ok (.iload_n 3, 1) := by decide +kernel
theorem dX4_goesTo_46 : decode cX4_goesTo 46 = .ok (.goto 20, 3) := by decide +kernel
theorem dX4_goesTo_49 : decode cX4_goesTo 49 = .ok (.aload_n 0, 1) := by decide +kernel
theorem dX4_goesTo_50 : decode cX4_goesTo 50 = .ok (.iload_n 1, 1) := by decide +kernel
theorem dX4_goesTo_51 : decode cX4_goesTo 51 = .ok (.invokestatic 69, 3) := by decide +kernel
theorem dX4_goesTo_54 : decode cX4_goesTo 54 = .ok (.ifCond .eq 7, 3) := by decide +kernel
theorem dX4_goesTo_57 : decode cX4_goesTo 57 = .ok (.iconst (-1), 1) := by decide +kernel
theorem dX4_goesTo_58 : decode cX4_goesTo 58 = .ok (.goto 8, 3) := by decide +kernel
theorem dX4_goesTo_61 : decode cX4_goesTo 61 = .ok (.aload_n 0, 1) := by decide +kernel
theorem dX4_goesTo_62 : decode cX4_goesTo 62 = .ok (.iload_n 2, 1) := by decide +kernel
theorem dX4_goesTo_63 : decode cX4_goesTo 63 = .ok (.invokestatic 73, 3) := by decide +kernel
theorem dX4_goesTo_66 : decode cX4_goesTo 66 = .ok (.ireturn, 1) := by decide +kernel
set_option maxRecDepth 20000 in
theorem ggX4_writes_X4_goesTo : GoodIn wsX4_writes wsX4_goesTo := goodIn_r _ [4, 5, 6, 3, 7, 8, 9, 10, 11, 12, 13, 14, 15, 16, 17, 18, 19, 20, 21, 22, 23, 24, 25, 26, 27, 28, 29, 30, 31] (by decide +kernel) (by decide +kernel)
set_option maxRecDepth 20000 in
theorem gX4_writes_X4_goesTo : GoodIn wsX4_writes (va_wsS RX4 76 yX4_goesTo wsX4_goesTo) := goodIn_app (goodIn_of _ (by decide +kernel)) ggX4_writes_X4_goesTo
set_option maxRecDepth 20000 in
theorem ggX4_writes_X4_stuck : GoodIn wsX4_writes wsX4_stuck := goodIn_r _ [19, 20, 21, 3, 22] (by decide +kernel) (by decide +kernel)
set_option maxRecDepth 20000 in
theorem gX4_writes_X4_stuck : GoodIn wsX4_writes (va_wsS RX4 55 yX4_stuck wsX4_stuck) := goodIn_app (goodIn_of _ (by decide +kernel)) ggX4_writes_X4_stuck
set_option maxRecDepth 20000 in
theorem ggX4_writes_X4_taken : GoodIn wsX4_writes wsX4_taken := goodIn_r _ [25, 26, 27, 3, 28] (by decide +kernel) (by decide +kernel)
set_option maxRecDepth 20000 in
theorem gX4_writes_X4_taken : GoodIn wsX4_writes (va_wsS RX4 51 yX4_taken wsX4_taken) := goodIn_app (goodIn_of _ (by decide +kernel)) ggX4_writes_X4_taken
set_option maxRecDepth 20000 in
theorem ggX4_writes_X4_ones : GoodIn wsX4_writes wsX4_ones := goodIn_r _ [28] (by decide +kernel) (by decide +kernel)
set_option maxRecDepth 20000 in
theorem gX4_writes_X4_ones : GoodIn wsX4_writes (va_wsS RX4 48 yX4_ones wsX4_ones) := goodIn_app (goodIn_of _ (by decide +kernel)) ggX4_writes_X4_ones
set_option maxRecDepth 20000 in
theorem ggX4_writes_X4_reads : GoodIn wsX4_writes wsX4_reads := goodIn_r _ [34] (by decide +kernel) (by decide +kernel)
set_option maxRecDepth 20000 in
theorem gX4_writes_X4_reads : GoodIn wsX4_writes (va_wsS RX4 79 yX4_reads wsX4_reads) := goodIn_app (goodIn_of _ (by decide +kernel)) ggX4_writes_X4_reads
theorem dX4_writes_0 : decode cX4_writes 0 = .ok (.aload_n 0, 1) := by decide +kernel
theorem dX4_writes_1 : decode cX4_writes 1 = .ok (.iload_n 1, 1) := by decide +kernel
theorem dX4_writes_2 : decode cX4_writes 2 = .ok (.iload_n 2, 1) := by decide +kernel
theorem dX4_writes_3 : decode cX4_writes 3 = .ok (.invokestatic 76, 3) := by decide +kernel
theorem dX4_writes_6 : decode cX4_writes 6 = .ok (.istore_n 3, 1) := by decide +kernel
theorem dX4_writes_7 : decode cX4_writes 7 = .ok (.iload_n 3, 1) := by decide +kernel
theorem dX4_writes_8 : decode cX4_writes 8 = .ok (.iconst (-1), 1) := by decide +kernel
theorem dX4_writes_9 : decode cX4_writes 9 = .ok (.if_icmp .ne 5, 3) := by decide +kernel
theorem dX4_writes_12 : decode cX4_writes 12 = .ok (.iconst (-1), 1) := by decide +kernel
theorem dX4_writes_13 : decode cX4_writes 13 = .ok (.ireturn, 1) := by decide +kernel
theorem dX4_writes_14 : decode cX4_writes 14 = .ok (.iload_n 3, 1) := by decide +kernel
theorem dX4_writes_15 : decode cX4_writes 15 = .ok (.aload_n 0, 1) := by decide +kernel
theorem dX4_writes_16 : decode cX4_writes 16 = .ok (.sipush 259, 3) := by decide +kernel
theorem dX4_writes_19 : decode cX4_writes 19 = .ok (.iload_n 1, 1) := by decide +kernel
theorem dX4_writes_20 : decode cX4_writes 20 = .ok (.iadd, 1) := by decide +kernel
theorem dX4_writes_21 : decode cX4_writes 21 = .ok (.iaload, 1) := by decide +kernel
theorem dX4_writes_22 : decode cX4_writes 22 = .ok (.if_icmp .eq 7, 3) := by decide +kernel
theorem dX4_writes_25 : decode cX4_writes 25 = .ok (.iconst 1, 1) := by decide +kernel
theorem dX4_writes_26 : decode cX4_writes 26 = .ok (.goto 4, 3) := by decide +kernel
theorem dX4_writes_29 : decode cX4_writes 29 = .ok (.iconst 0, 1) := by decide +kernel
theorem dX4_writes_30 : decode cX4_writes 30 = .ok (.istore 4, 2) := by decide +kernel
theorem dX4_writes_32 : decode cX4_writes 32 = .ok (.aload_n 0, 1) := by decide +kernel
theorem dX4_writes_33 : decode cX4_writes 33 = .ok (.iload_n 3, 1) := by decide +kernel
theorem dX4_writes_34 : decode cX4_writes 34 = .ok (.iload_n 2, 1) := by decide +kernel
theorem dX4_writes_35 : decode cX4_writes 35 = .ok (.aload_n 0, 1) := by decide +kernel
theorem dX4_writes_36 : decode cX4_writes 36 = .ok (.iload_n 3, 1) := by decide +kernel
theorem dX4_writes_37 : decode cX4_writes 37 = .ok (.invokestatic 55, 3) := by decide +kernel
theorem dX4_writes_40 : decode cX4_writes 40 = .ok (.invokestatic 51, 3) := by decide +kernel
theorem dX4_writes_43 : decode cX4_writes 43 = .ok (.istore 5, 2) := by decide +kernel
theorem dX4_writes_45 : decode cX4_writes 45 = .ok (.aload_n 0, 1) := by decide +kernel
theorem dX4_writes_46 : decode cX4_writes 46 = .ok (.bipush 7, 2) := by decide +kernel
theorem dX4_writes_48 : decode cX4_writes 48 = .ok (.iload_n 3, 1) := by decide +kernel
theorem dX4_writes_49 : decode cX4_writes 49 = .ok (.iadd, 1) := by decide +kernel
theorem dX4_writes_50 : decode cX4_writes 50 = .ok (.iaload, 1) := by decide +kernel
theorem dX4_writes_51 : decode cX4_writes 51 = .ok (.iload 5, 2) := by decide +kernel
theorem dX4_writes_53 : decode cX4_writes 53 = .ok (.ixor, 1) := by decide +kernel
theorem dX4_writes_54 : decode cX4_writes 54 = .ok (.istore 6, 2) := by decide +kernel
theorem dX4_writes_56 : decode cX4_writes 56 = .ok (.aload_n 0, 1) := by decide +kernel
theorem dX4_writes_57 : decode cX4_writes 57 = .ok (.iconst 2, 1) := by decide +kernel
theorem dX4_writes_58 : decode cX4_writes 58 = .ok (.dup2, 1) := by decide +kernel
theorem dX4_writes_59 : decode cX4_writes 59 = .ok (.iaload, 1) := by decide +kernel
theorem dX4_writes_60 : decode cX4_writes 60 = .ok (.iconst 1, 1) := by decide +kernel
theorem dX4_writes_61 : decode cX4_writes 61 = .ok (.iadd, 1) := by decide +kernel
theorem dX4_writes_62 : decode cX4_writes 62 = .ok (.iastore, 1) := by decide +kernel
theorem dX4_writes_63 : decode cX4_writes 63 = .ok (.aload_n 0, 1) := by decide +kernel
theorem dX4_writes_64 : decode cX4_writes 64 = .ok (.iconst 3, 1) := by decide +kernel
theorem dX4_writes_65 : decode cX4_writes 65 = .ok (.dup2, 1) := by decide +kernel
theorem dX4_writes_66 : decode cX4_writes 66 = .ok (.iaload, 1) := by decide +kernel
theorem dX4_writes_67 : decode cX4_writes 67 = .ok (.iload 6, 2) := by decide +kernel
theorem dX4_writes_69 : decode cX4_writes 69 = .ok (.invokestatic 48, 3) := by decide +kernel
theorem dX4_writes_72 : decode cX4_writes 72 = .ok (.iadd, 1) := by decide +kernel
theorem dX4_writes_73 : decode cX4_writes 73 = .ok (.iastore, 1) := by decide +kernel
theorem dX4_writes_74 : decode cX4_writes 74 = .ok (.aload_n 0, 1) := by decide +kernel
theorem dX4_writes_75 : decode cX4_writes 75 = .ok (.iconst 4, 1) := by decide +kernel
theorem dX4_writes_76 : decode cX4_writes 76 = .ok (.dup2, 1) := by decide +kernel
theorem dX4_writes_77 : decode cX4_writes 77 = .ok (.iaload, 1) := by decide +kernel
theorem dX4_writes_78 : decode cX4_writes 78 = .ok (.aload_n 0, 1) := by decide +kernel
theorem dX4_writes_79 : decode cX4_writes 79 = .ok (.iload_n 1, 1) := by decide +kernel
theorem dX4_writes_80 : decode cX4_writes 80 = .ok (.invokestatic 79, 3) := by decide +kernel
theorem dX4_writes_83 : decode cX4_writes 83 = .ok (.iload_n 2, 1) := by decide +kernel
theorem dX4_writes_84 : decode cX4_writes 84 = .ok (.ixor, 1) := by decide +kernel
theorem dX4_writes_85 : decode cX4_writes 85 = .ok (.invokestatic 48, 3) := by decide +kernel
theorem dX4_writes_88 : decode cX4_writes 88 = .ok (.iadd, 1) := by decide +kernel
theorem dX4_writes_89 : decode cX4_writes 89 = .ok (.iastore, 1) := by decide +kernel
theorem dX4_writes_90 : decode cX4_writes 90 = .ok (.aload_n 0, 1) := by decide +kernel
theorem dX4_writes_91 : decode cX4_writes 91 = .ok (.iconst 5, 1) := by decide +kernel
theorem dX4_writes_92 : decode cX4_writes 92 = .ok (.dup2, 1) := by decide +kernel
theorem dX4_writes_93 : decode cX4_writes 93 = .ok (.iaload, 1) := by decide +kernel
theorem dX4_writes_94 : decode cX4_writes 94 = .ok (.iload 4, 2) := by decide +kernel
theorem dX4_writes_96 : decode cX4_writes 96 = .ok (.ifCond .eq 7, 3) := by decide +kernel
theorem dX4_writes_99 : decode cX4_writes 99 = .ok (.iconst 1, 1) := by decide +kernel
theorem dX4_writes_100 : decode cX4_writes 100 = .ok (.goto 4, 3) := by decide +kernel
theorem dX4_writes_103 : decode cX4_writes 103 = .ok (.iconst 0, 1) := by decide +kernel
theorem dX4_writes_104 : decode cX4_writes 104 = .ok (.iadd, 1) := by decide +kernel
theorem dX4_writes_105 : decode cX4_writes 105 = .ok (.iastore, 1) := by decide +kernel
theorem dX4_writes_106 : decode cX4_writes 106 = .ok (.aload_n 0, 1) := by decide +kernel
theorem dX4_writes_107 : decode cX4_writes 107 = .ok (.bipush 6, 2) := by decide +kernel
theorem dX4_writes_109 : decode cX4_writes 109 = .ok (.dup2, 1) := by decide +kernel
theorem dX4_writes_110 : decode cX4_writes 110 = .ok (.iaload, 1) := by decide +kernel
theorem dX4_writes_111 : decode cX4_writes 111 = .ok (.iload 5, 2) := by decide +kernel
theorem dX4_writes_113 : decode cX4_writes 113 = .ok (.sipush 4096, 3) := by decide +kernel
theorem dX4_writes_116 : decode cX4_writes 116 = .ok (.if_icmp .ge 7, 3) := by decide +kernel
theorem dX4_writes_119 : decode cX4_writes 119 = .ok (.iconst 0, 1) := by decide +kernel
theorem dX4_writes_120 : decode cX4_writes 120 = .ok (.goto 4, 3) := by decide +kernel
theorem dX4_writes_123 : decode cX4_writes 123 = .ok (.iconst 1, 1) := by decide +kernel
theorem dX4_writes_124 : decode cX4_writes 124 = .ok (.iadd, 1) := by decide +kernel
theorem dX4_writes_125 : decode cX4_writes 125 = .ok (.iastore, 1) := by decide +kernel
theorem dX4_writes_126 : decode cX4_writes 126 = .ok (.iconst 0, 1) := by decide +kernel
theorem dX4_writes_127 : decode cX4_writes 127 = .ok (.istore 7, 2) := by decide +kernel
theorem dX4_writes_129 : decode cX4_writes 129 = .ok (.iload 7, 2) := by decide +kernel
theorem dX4_writes_131 : decode cX4_writes 131 = .ok (.bipush 13, 2) := by decide +kernel
theorem dX4_writes_133 : decode cX4_writes 133 = .ok (.if_icmp .ge 31, 3) := by decide +kernel
theorem dX4_writes_136 : decode cX4_writes 136 = .ok (.aload_n 0, 1) := by decide +kernel
theorem dX4_writes_137 : decode cX4_writes 137 = .ok (.bipush 25, 2) := by decide +kernel
theorem dX4_writes_139 : decode cX4_writes 139 = .ok (.bipush 13, 2) := by decide +kernel
theorem dX4_writes_141 : decode cX4_writes 141 = .ok (.iload_n 3, 1) := by decide +kernel
theorem dX4_writes_142 : decode cX4_writes 142 = .ok (.imul, 1) := by decide +kernel
theorem dX4_writes_143 : decode cX4_writes 143 = .ok (.iadd, 1) := by decide +kernel
theorem dX4_writes_144 : decode cX4_writes 144 = .ok (.iload 7, 2) := by decide +kernel
theorem dX4_writes_146 : decode cX4_writes 146 = .ok (.iadd, 1) := by decide +kernel
theorem dX4_writes_147 : decode cX4_writes 147 = .ok (.dup2, 1) := by decide +kernel
theorem dX4_writes_148 : decode cX4_writes 148 = .ok (.iaload, 1) := by decide +kernel
theorem dX4_writes_149 : decode cX4_writes 149 = .ok (.iload 6, 2) := by decide +kernel
theorem dX4_writes_151 : decode cX4_writes 151 = .ok (.iload 7, 2) := by decide +kernel
theorem dX4_writes_153 : decode cX4_writes 153 = .ok (.ishr, 1) := by decide +kernel
theorem dX4_writes_154 : decode cX4_writes 154 = .ok (.iconst 1, 1) := by decide +kernel
theorem dX4_writes_155 : decode cX4_writes 155 = .ok (.iand, 1) := by decide +kernel
theorem dX4_writes_156 : decode cX4_writes 156 = .ok (.iadd, 1) := by decide +kernel
theorem dX4_writes_157 : decode cX4_writes 157 = .ok (.iastore, 1) := by decide +kernel
theorem dX4_writes_158 : decode cX4_writes 158 = .ok (.iinc 7 1, 3) := by decide +kernel
theorem dX4_writes_161 : decode cX4_writes 161 = .ok (.goto (-32), 3) := by decide +kernel
theorem dX4_writes_164 : decode cX4_writes 164 = .ok (.aload_n 0, 1) := by decide +kernel
theorem dX4_writes_165 : decode cX4_writes 165 = .ok (.bipush 7, 2) := by decide +kernel
theorem dX4_writes_167 : decode cX4_writes 167 = .ok (.iload_n 3, 1) := by decide +kernel
theorem dX4_writes_168 : decode cX4_writes 168 = .ok (.iadd, 1) := by decide +kernel
theorem dX4_writes_169 : decode cX4_writes 169 = .ok (.iload 5, 2) := by decide +kernel
theorem dX4_writes_171 : decode cX4_writes 171 = .ok (.iastore, 1) := by decide +kernel
theorem dX4_writes_172 : decode cX4_writes 172 = .ok (.aload_n 0, 1) := by decide +kernel
theorem dX4_writes_173 : decode cX4_writes 173 = .ok (.sipush 259, 3) := by decide +kernel
theorem dX4_writes_176 : decode cX4_writes 176 = .ok (.iload_n 1, 1) := by decide +kernel
theorem dX4_writes_177 : decode cX4_writes 177 = .ok (.iadd, 1) := by decide +kernel
theorem dX4_writes_178 : decode cX4_writes 178 = .ok (.iload_n 3, 1) := by decide +kernel
theorem dX4_writes_179 : decode cX4_writes 179 = .ok (.iastore, 1) := by decide +kernel
theorem dX4_writes_180 : decode cX4_writes 180 = .ok (.aload_n 0, 1) := by decide +kernel
theorem dX4_writes_181 : decode cX4_writes 181 = .ok (.sipush 275, 3) := by decide +kernel
theorem dX4_writes_184 : decode cX4_writes 184 = .ok (.iload_n 1, 1) := by decide +kernel
theorem dX4_writes_185 : decode cX4_writes 185 = .ok (.iadd, 1) := by decide +kernel
theorem dX4_writes_186 : decode cX4_writes 186 = .ok (.iload 4, 2) := by decide +kernel
theorem dX4_writes_188 : decode cX4_writes 188 = .ok (.ifCond .eq 7, 3) := by decide +kernel
theorem dX4_writes_191 : decode cX4_writes 191 = .ok (.iconst 0, 1) := by decide +kernel
theorem dX4_writes_192 : decode cX4_writes 192 = .ok (.goto 12, 3) := by decide +kernel
theorem dX4_writes_195 : decode cX4_writes 195 = .ok (.aload_n 0, 1) := by decide +kernel
theorem dX4_writes_196 : decode cX4_writes 196 = .ok (.sipush 275, 3) := by decide +kernel
theorem dX4_writes_199 : decode cX4_writes 199 = .ok (.iload_n 1, 1) := by decide +kernel
theorem dX4_writes_200 : decode cX4_writes 200 = .ok (.iadd, 1) := by decide +kernel
theorem dX4_writes_201 : decode cX4_writes 201 = .ok (.iaload, 1) := by decide +kernel
theorem dX4_writes_202 : decode cX4_writes 202 = .ok (.iconst 1, 1) := by decide +kernel
theorem dX4_writes_203 : decode cX4_writes 203 = .ok (.iadd, 1) := by decide +kernel
theorem dX4_writes_204 : decode cX4_writes 204 = .ok (.iastore, 1) := by decide +kernel
theorem dX4_writes_205 : decode cX4_writes 205 = .ok (.aload_n 0, 1) := by decide +kernel
theorem dX4_writes_206 : decode cX4_writes 206 = .ok (.sipush 291, 3) := by decide +kernel
theorem dX4_writes_209 : decode cX4_writes 209 = .ok (.iload_n 1, 1) := by decide +kernel
theorem dX4_writes_210 : decode cX4_writes 210 = .ok (.iadd, 1) := by decide +kernel
theorem dX4_writes_211 : decode cX4_writes 211 = .ok (.dup2, 1) := by decide +kernel
theorem dX4_writes_212 : decode cX4_writes 212 = .ok (.iaload, 1) := by decide +kernel
theorem dX4_writes_213 : decode cX4_writes 213 = .ok (.iconst 1, 1) := by decide +kernel
theorem dX4_writes_214 : decode cX4_writes 214 = .ok (.iadd, 1) := by decide +kernel
theorem dX4_writes_215 : decode cX4_writes 215 = .ok (.iastore, 1) := by decide +kernel
theorem dX4_writes_216 : decode cX4_writes 216 = .ok (.aload_n 0, 1) := by decide +kernel
theorem dX4_writes_217 : decode cX4_writes 217 = .ok (.sipush 307, 3) := by decide +kernel
theorem dX4_writes_220 : decode cX4_writes 220 = .ok (.iload_n 1, 1) := by decide +kernel
theorem dX4_writes_221 : decode cX4_writes 221 = .ok (.iadd, 1) := by decide +kernel
theorem dX4_writes_222 : decode cX4_writes 222 = .ok (.dup2, 1) := by decide +kernel
theorem dX4_writes_223 : decode cX4_writes 223 = .ok (.iaload, 1) := by decide +kernel
theorem dX4_writes_224 : decode cX4_writes 224 = .ok (.iload 4, 2) := by decide +kernel
theorem dX4_writes_226 : decode cX4_writes 226 = .ok (.ifCond .eq 7, 3) := by decide +kernel
theorem dX4_writes_229 : decode cX4_writes 229 = .ok (.iconst 1, 1) := by decide +kernel
theorem dX4_writes_230 : decode cX4_writes 230 = .ok (.goto 4, 3) := by decide +kernel
theorem dX4_writes_233 : decode cX4_writes 233 = .ok (.iconst 0, 1) := by decide +kernel
theorem dX4_writes_234 : decode cX4_writes 234 = .ok (.iadd, 1) := by decide +kernel
theorem dX4_writes_235 : decode cX4_writes 235 = .ok (.iastore, 1) := by decide +kernel
theorem dX4_writes_236 : decode cX4_writes 236 = .ok (.iload 6, 2) := by decide +kernel
theorem dX4_writes_238 : decode cX4_writes 238 = .ok (.invokestatic 48, 3) := by decide +kernel
theorem dX4_writes_241 : decode cX4_writes 241 = .ok (.ireturn, 1) := by decide +kernel
set_option maxRecDepth 20000 in
theorem ggX4_hammers_X4_writes : GoodIn wsX4_hammers wsX4_writes := goodIn_r _ [4, 5, 6, 3, 7, 8, 9, 10, 11, 12, 13, 14, 15, 16, 17, 18, 19, 20, 21, 22, 23, 24, 25, 26, 27, 28, 29, 30, 31, 32, 33, 34, 35, 36, 37] (by decide +kernel) (by decide +kernel)
set_option maxRecDepth 20000 in
theorem gX4_hammers_X4_writes : GoodIn wsX4_hammers (va_wsS RX4 82 yX4_writes wsX4_writes) := goodIn_app (goodIn_of _ (by decide +kernel)) ggX4_hammers_X4_writes
theorem dX4_hammers_0 : decode cX4_hammers 0 = .ok (.iconst 0, 1) := by decide +kernel
theorem dX4_hammers_1 : decode cX4_hammers 1 = .ok (.istore 4, 2) := by decide +kernel
theorem dX4_hammers_3 : decode cX4_hammers 3 = .ok (.iload 4, 2) := by decide +kernel
theorem dX4_hammers_5 : decode cX4_hammers 5 = .ok (.iload_n 3, 1) := by decide +kernel
theorem dX4_hammers_6 : decode cX4_hammers 6 = .ok (.if_icmp .ge 36, 3) := by decide +kernel
theorem dX4_hammers_9 : decode cX4_hammers 9 = .ok (.aload_n 0, 1) := by decide +kernel
theorem dX4_hammers_10 : decode cX4_hammers 10 = .ok (.iload_n 1, 1) := by decide +kernel
theorem dX4_hammers_11 : decode cX4_hammers 11 = .ok (.iload 4, 2) := by decide +kernel
theorem dX4_hammers_13 : decode cX4_hammers 13 = .ok (.iconst 2, 1) := by decide +kernel
theorem dX4_hammers_14 : decode cX4_hammers 14 = .ok (.irem, 1) := by decide +kernel
theorem dX4_hammers_15 : decode cX4_hammers 15 = .ok (.ifCond .ne 7, 3) := by decide +kernel
theorem dX4_hammers_18 : decode cX4_hammers 18 = .ok (.iload_n 2, 1) := by decide +kernel
theorem dX4_hammers_19 : decode cX4_hammers 19 = .ok (.goto 10, 3) := by decide +kernel
theorem dX4_hammers_22 : decode cX4_hammers 22 = .ok (.iload_n 2, 1) := by decide +kernel
theorem dX4_hammers_23 : decode cX4_hammers 23 = .ok (.iconst (-1), 1) := by decide +kernel
theorem dX4_hammers_24 : decode cX4_hammers 24 = .ok (.ixor, 1) := by decide +kernel
theorem dX4_hammers_25 : decode cX4_hammers 25 = .ok (.sipush 4095, 3) := by decide +kernel
theorem dX4_hammers_28 : decode cX4_hammers 28 = .ok (.iand, 1) := by decide +kernel
theorem dX4_hammers_29 : decode cX4_hammers 29 = .ok (.invokestatic 82, 3) := by decide +kernel
theorem dX4_hammers_32 : decode cX4_hammers 32 = .ok (.iconst (-1), 1) := by decide +kernel
theorem dX4_hammers_33 : decode cX4_hammers 33 = .ok (.if_icmp .eq 9, 3) := by decide +kernel
theorem dX4_hammers_36 : decode cX4_hammers 36 = .ok (.iinc 4 1, 3) := by decide +kernel
theorem dX4_hammers_39 : decode cX4_hammers 39 = .ok (.goto (-36), 3) := by decide +kernel
theorem dX4_hammers_42 : decode cX4_hammers 42 = .ok (.iload 4, 2) := by decide +kernel
theorem dX4_hammers_44 : decode cX4_hammers 44 = .ok (.ireturn, 1) := by decide +kernel
set_option maxRecDepth 20000 in
theorem ggX4_write_X4_isWord : GoodIn wsX4_write wsX4_isWord := goodIn_r _ [6, 7, 8, 5, 9] (by decide +kernel) (by decide +kernel)
set_option maxRecDepth 20000 in
theorem gX4_write_X4_isWord : GoodIn wsX4_write (va_wsS RX4 85 yX4_isWord wsX4_isWord) := goodIn_app (goodIn_of _ (by decide +kernel)) ggX4_write_X4_isWord
set_option maxRecDepth 20000 in
theorem ggX4_write_X4_isNumber : GoodIn wsX4_write wsX4_isNumber := goodIn_r _ [12, 7, 8, 5, 9] (by decide +kernel) (by decide +kernel)
set_option maxRecDepth 20000 in
theorem gX4_write_X4_isNumber : GoodIn wsX4_write (va_wsS RX4 89 yX4_isNumber wsX4_isNumber) := goodIn_app (goodIn_of _ (by decide +kernel)) ggX4_write_X4_isNumber
set_option maxRecDepth 20000 in
theorem ggX4_write_X4_goesTo : GoodIn wsX4_write wsX4_goesTo := goodIn_r _ [15, 16, 17, 5, 18, 19, 20, 21, 22, 23, 24, 25, 26, 27, 28, 29, 30, 31, 32, 33, 34, 35, 36, 37, 38, 39, 40, 41, 42] (by decide +kernel) (by decide +kernel)
set_option maxRecDepth 20000 in
theorem gX4_write_X4_goesTo : GoodIn wsX4_write (va_wsS RX4 76 yX4_goesTo wsX4_goesTo) := goodIn_app (goodIn_of _ (by decide +kernel)) ggX4_write_X4_goesTo
set_option maxRecDepth 20000 in
theorem ggX4_write_X4_saves : GoodIn wsX4_write wsX4_saves := goodIn_r _ [46, 47, 48, 1, 49, 50, 5, 51, 58, 59, 60, 61, 62, 63, 64, 65, 66, 67, 68, 69] (by decide +kernel) (by decide +kernel)
set_option maxRecDepth 20000 in
theorem gX4_write_X4_saves : GoodIn wsX4_write (wsV RX4 92 RX4 yX4_saves wsX4_saves) := goodIn_app (goodIn_of _ (by decide +kernel)) ggX4_write_X4_saves
set_option maxRecDepth 20000 in
theorem ggX4_write_X4_writes : GoodIn wsX4_write wsX4_writes := goodIn_r _ [54, 13, 14, 5, 15, 16, 17, 18, 19, 20, 21, 22, 23, 24, 25, 26, 27, 28, 29, 30, 31, 32, 33, 34, 35, 36, 37, 38, 39, 40, 41, 42, 55, 56, 57] (by decide +kernel) (by decide +kernel)
set_option maxRecDepth 20000 in
theorem gX4_write_X4_writes : GoodIn wsX4_write (va_wsS RX4 82 yX4_writes wsX4_writes) := goodIn_app (goodIn_of _ (by decide +kernel)) ggX4_write_X4_writes
theorem dX4_write_0 : decode cX4_write 0 = .ok (.aload_n 0, 1) := by decide +kernel
theorem dX4_write_1 : decode cX4_write 1 = .ok (.iload_n 1, 1) := by decide +kernel
theorem dX4_write_2 : decode cX4_write 2 = .ok (.invokestatic 85, 3) := by decide +kernel
theorem dX4_write_5 : decode cX4_write 5 = .ok (.ifCond .ne 7, 3) := by decide +kernel
theorem dX4_write_8 : decode cX4_write 8 = .ok (.iconst 1, 1) := by decide +kernel
theorem dX4_write_9 : decode cX4_write 9 = .ok (.goto 32, 3) := by decide +kernel
theorem dX4_write_12 : decode cX4_write 12 = .ok (.iload_n 2, 1) := by decide +kernel
theorem dX4_write_13 : decode cX4_write 13 = .ok (.invokestatic 89, 3) := by decide +kernel
theorem dX4_write_16 : decode cX4_write 16 = .ok (.ifCond .ne 7, 3) := by decide +kernel
theorem dX4_write_19 : decode cX4_write 19 = .ok (.iconst 2, 1) := by decide +kernel
theorem dX4_write_20 : decode cX4_write 20 = .ok (.goto 21, 3) := by decide +kernel
theorem dX4_write_23 : decode cX4_write 23 = .ok (.aload_n 0, 1) := by decide +kernel
theorem dX4_write_24 : decode cX4_write 24 = .ok (.getfield 7, 3) := by decide +kernel
theorem dX4_write_27 : decode cX4_write 27 = .ok (.iload_n 1, 1) := by decide +kernel
theorem dX4_write_28 : decode cX4_write 28 = .ok (.iload_n 2, 1) := by decide +kernel
theorem dX4_write_29 : decode cX4_write 29 = .ok (.invokestatic 76, 3) := by decide +kernel
theorem dX4_write_32 : decode cX4_write 32 = .ok (.iconst (-1), 1) := by decide +kernel
theorem dX4_write_33 : decode cX4_write 33 = .ok (.if_icmp .ne 7, 3) := by decide +kernel
theorem dX4_write_36 : decode cX4_write 36 = .ok (.iconst 3, 1) := by decide +kernel
theorem dX4_write_37 : decode cX4_write 37 = .ok (.goto 4, 3) := by decide +kernel
theorem dX4_write_40 : decode cX4_write 40 = .ok (.iconst 0, 1) := by decide +kernel
theorem dX4_write_41 : decode cX4_write 41 = .ok (.putfield 25, 3) := by decide +kernel
theorem dX4_write_44 : decode cX4_write 44 = .ok (.aload_n 0, 1) := by decide +kernel
theorem dX4_write_45 : decode cX4_write 45 = .ok (.getfield 25, 3) := by decide +kernel
theorem dX4_write_48 : decode cX4_write 48 = .ok (.ifCond .eq 5, 3) := by decide +kernel
theorem dX4_write_51 : decode cX4_write 51 = .ok (.iconst 0, 1) := by decide +kernel
theorem dX4_write_52 : decode cX4_write 52 = .ok (.ireturn, 1) := by decide +kernel
theorem dX4_write_53 : decode cX4_write 53 = .ok (.aload_n 0, 1) := by decide +kernel
theorem dX4_write_54 : decode cX4_write 54 = .ok (.invokevirtual 92, 3) := by decide +kernel
theorem dX4_write_57 : decode cX4_write 57 = .ok (.aload_n 0, 1) := by decide +kernel
theorem dX4_write_58 : decode cX4_write 58 = .ok (.getfield 7, 3) := by decide +kernel
theorem dX4_write_61 : decode cX4_write 61 = .ok (.iload_n 1, 1) := by decide +kernel
theorem dX4_write_62 : decode cX4_write 62 = .ok (.iload_n 2, 1) := by decide +kernel
theorem dX4_write_63 : decode cX4_write 63 = .ok (.invokestatic 82, 3) := by decide +kernel
theorem dX4_write_66 : decode cX4_write 66 = .ok (.ireturn, 1) := by decide +kernel
set_option maxRecDepth 20000 in
theorem ggX4_hammer_X4_isWord : GoodIn wsX4_hammer wsX4_isWord := goodIn_r _ [6, 7, 8, 5, 9] (by decide +kernel) (by decide +kernel)
set_option maxRecDepth 20000 in
theorem gX4_hammer_X4_isWord : GoodIn wsX4_hammer (va_wsS RX4 85 yX4_isWord wsX4_isWord) := goodIn_app (goodIn_of _ (by decide +kernel)) ggX4_hammer_X4_isWord
set_option maxRecDepth 20000 in
theorem ggX4_hammer_X4_isNumber : GoodIn wsX4_hammer wsX4_isNumber := goodIn_r _ [12, 7, 8, 5, 9] (by decide +kernel) (by decide +kernel)
set_option maxRecDepth 20000 in
theorem gX4_hammer_X4_isNumber : GoodIn wsX4_hammer (va_wsS RX4 89 yX4_isNumber wsX4_isNumber) := goodIn_app (goodIn_of _ (by decide +kernel)) ggX4_hammer_X4_isNumber
set_option maxRecDepth 20000 in
theorem ggX4_hammer_X4_in : GoodIn wsX4_hammer wsX4_in := goodIn_r _ [9] (by decide +kernel) (by decide +kernel)
set_option maxRecDepth 20000 in
theorem gX4_hammer_X4_in : GoodIn wsX4_hammer (va_wsS RX4 29 yX4_in wsX4_in) := goodIn_app (goodIn_of _ (by decide +kernel)) ggX4_hammer_X4_in
set_option maxRecDepth 20000 in
theorem ggX4_hammer_X4_saves : GoodIn wsX4_hammer wsX4_saves := goodIn_r _ [16, 17, 18, 2, 19, 20, 5, 21, 61, 62, 63, 64, 65, 66, 67, 68, 69, 70, 71, 72] (by decide +kernel) (by decide +kernel)
set_option maxRecDepth 20000 in
theorem gX4_hammer_X4_saves : GoodIn wsX4_hammer (wsV RX4 92 RX4 yX4_saves wsX4_saves) := goodIn_app (goodIn_of _ (by decide +kernel)) ggX4_hammer_X4_saves
set_option maxRecDepth 20000 in
theorem ggX4_hammer_X4_hammers : GoodIn wsX4_hammer wsX4_hammers := goodIn_r _ [24, 25, 26, 5, 27, 28, 29, 30, 31, 32, 33, 34, 35, 36, 37, 38, 39, 40, 41, 42, 43, 44, 45, 46, 47, 48, 49, 50, 51, 52, 53, 54, 55, 56, 57, 58, 59, 60] (by decide +kernel) (by decide +kernel)
set_option maxRecDepth 20000 in
theorem gX4_hammer_X4_hammers : GoodIn wsX4_hammer (va_wsS RX4 95 yX4_hammers wsX4_hammers) := goodIn_app (goodIn_of _ (by decide +kernel)) ggX4_hammer_X4_hammers
theorem dX4_hammer_0 : decode cX4_hammer 0 = .ok (.aload_n 0, 1) := by decide +kernel
theorem dX4_hammer_1 : decode cX4_hammer 1 = .ok (.iload_n 1, 1) := by decide +kernel
theorem dX4_hammer_2 : decode cX4_hammer 2 = .ok (.invokestatic 85, 3) := by decide +kernel
theorem dX4_hammer_5 : decode cX4_hammer 5 = .ok (.ifCond .ne 7, 3) := by decide +kernel
theorem dX4_hammer_8 : decode cX4_hammer 8 = .ok (.iconst 1, 1) := by decide +kernel
theorem dX4_hammer_9 : decode cX4_hammer 9 = .ok (.goto 26, 3) := by decide +kernel
theorem dX4_hammer_12 : decode cX4_hammer 12 = .ok (.iload_n 2, 1) := by decide +kernel
theorem dX4_hammer_13 : decode cX4_hammer 13 = .ok (.invokestatic 89, 3) := by decide +kernel
theorem dX4_hammer_16 : decode cX4_hammer 16 = .ok (.ifCond .eq 18, 3) := by decide +kernel
theorem dX4_hammer_19 : decode cX4_hammer 19 = .ok (.iload_n 3, 1) := by decide +kernel
theorem dX4_hammer_20 : decode cX4_hammer 20 = .ok (.iconst 1, 1) := by decide +kernel
theorem dX4_hammer_21 : decode cX4_hammer 21 = .ok (.sipush 500, 3) := by decide +kernel
theorem dX4_hammer_24 : decode cX4_hammer 24 = .ok (.invokestatic 29, 3) := by decide +kernel
theorem dX4_hammer_27 : decode cX4_hammer 27 = .ok (.ifCond .eq 7, 3) := by decide +kernel
theorem dX4_hammer_30 : decode cX4_hammer 30 = .ok (.iconst 0, 1) := by decide +kernel
theorem dX4_hammer_31 : decode cX4_hammer 31 = .ok (.goto 4, 3) := by decide +kernel
theorem dX4_hammer_34 : decode cX4_hammer 34 = .ok (.iconst 2, 1) := by decide +kernel
theorem dX4_hammer_35 : decode cX4_hammer 35 = .ok (.putfield 25, 3) := by decide +kernel
theorem dX4_hammer_38 : decode cX4_hammer 38 = .ok (.aload_n 0, 1) := by decide +kernel
theorem dX4_hammer_39 : decode cX4_hammer 39 = .ok (.getfield 25, 3) := by decide +kernel
theorem dX4_hammer_42 : decode cX4_hammer 42 = .ok (.ifCond .eq 5, 3) := by decide +kernel
theorem dX4_hammer_45 : decode cX4_hammer 45 = .ok (.iconst 0, 1) := by decide +kernel
theorem dX4_hammer_46 : decode cX4_hammer 46 = .ok (.ireturn, 1) := by decide +kernel
theorem dX4_hammer_47 : decode cX4_hammer 47 = .ok (.aload_n 0, 1) := by decide +kernel
theorem dX4_hammer_48 : decode cX4_hammer 48 = .ok (.invokevirtual 92, 3) := by decide +kernel
theorem dX4_hammer_51 : decode cX4_hammer 51 = .ok (.aload_n 0, 1) := by decide +kernel
theorem dX4_hammer_52 : decode cX4_hammer 52 = .ok (.getfield 7, 3) := by decide +kernel
theorem dX4_hammer_55 : decode cX4_hammer 55 = .ok (.iload_n 1, 1) := by decide +kernel
theorem dX4_hammer_56 : decode cX4_hammer 56 = .ok (.iload_n 2, 1) := by decide +kernel
theorem dX4_hammer_57 : decode cX4_hammer 57 = .ok (.iload_n 3, 1) := by decide +kernel
theorem dX4_hammer_58 : decode cX4_hammer 58 = .ok (.invokestatic 95, 3) := by decide +kernel
theorem dX4_hammer_61 : decode cX4_hammer 61 = .ok (.ireturn, 1) := by decide +kernel
set_option maxRecDepth 20000 in
theorem ggX4_exchange_X4_isWord : GoodIn wsX4_exchange wsX4_isWord := goodIn_r _ [6, 7, 8, 5, 9] (by decide +kernel) (by decide +kernel)
set_option maxRecDepth 20000 in
theorem gX4_exchange_X4_isWord : GoodIn wsX4_exchange (va_wsS RX4 85 yX4_isWord wsX4_isWord) := goodIn_app (goodIn_of _ (by decide +kernel)) ggX4_exchange_X4_isWord
set_option maxRecDepth 20000 in
theorem ggX4_exchange_X4_fails : GoodIn wsX4_exchange wsX4_fails := goodIn_r _ [13, 1, 23, 24, 25, 26, 27, 28, 29, 30, 31, 32, 33, 34] (by decide +kernel) (by decide +kernel)
set_option maxRecDepth 20000 in
theorem gX4_exchange_X4_fails : GoodIn wsX4_exchange (wsV RX4 40 RX4 yX4_fails wsX4_fails) := goodIn_app (goodIn_of _ (by decide +kernel)) ggX4_exchange_X4_fails
set_option maxRecDepth 20000 in
theorem ggX4_exchange_X4_saves : GoodIn wsX4_exchange wsX4_saves := goodIn_r _ [17, 18, 19, 2, 20, 21, 5, 22, 23, 24, 25, 26, 27, 28, 29, 30, 31, 32, 33, 34] (by decide +kernel) (by decide +kernel)
set_option maxRecDepth 20000 in
theorem gX4_exchange_X4_saves : GoodIn wsX4_exchange (wsV RX4 92 RX4 yX4_saves wsX4_saves) := goodIn_app (goodIn_of _ (by decide +kernel)) ggX4_exchange_X4_saves
theorem dX4_exchange_0 : decode cX4_exchange 0 = .ok (.aload_n 0, 1) := by decide +kernel
theorem dX4_exchange_1 : decode cX4_exchange 1 = .ok (.iconst 0, 1) := by decide +kernel
theorem dX4_exchange_2 : decode cX4_exchange 2 = .ok (.putfield 25, 3) := by decide +kernel
theorem dX4_exchange_5 : decode cX4_exchange 5 = .ok (.iload_n 1, 1) := by decide +kernel
theorem dX4_exchange_6 : decode cX4_exchange 6 = .ok (.invokestatic 85, 3) := by decide +kernel
theorem dX4_exchange_9 : decode cX4_exchange 9 = .ok (.ifCond .eq 10, 3) := by decide +kernel
theorem dX4_exchange_12 : decode cX4_exchange 12 = .ok (.iload_n 2, 1) := by decide +kernel
theorem dX4_exchange_13 : decode cX4_exchange 13 = .ok (.invokestatic 85, 3) := by decide +kernel
theorem dX4_exchange_16 : decode cX4_exchange 16 = .ok (.ifCond .ne 9, 3) := by decide +kernel
theorem dX4_exchange_19 : decode cX4_exchange 19 = .ok (.aload_n 0, 1) := by decide +kernel
theorem dX4_exchange_20 : decode cX4_exchange 20 = .ok (.iconst 1, 1) := by decide +kernel
theorem dX4_exchange_21 : decode cX4_exchange 21 = .ok (.invokevirtual 40, 3) := by decide +kernel
theorem dX4_exchange_24 : decode cX4_exchange 24 = .ok (.ireturn, 1) := by decide +kernel
theorem dX4_exchange_25 : decode cX4_exchange 25 = .ok (.aload_n 0, 1) := by decide +kernel
theorem dX4_exchange_26 : decode cX4_exchange 26 = .ok (.invokevirtual 92, 3) := by decide +kernel
theorem dX4_exchange_29 : decode cX4_exchange 29 = .ok (.aload_n 0, 1) := by decide +kernel
theorem dX4_exchange_30 : decode cX4_exchange 30 = .ok (.getfield 7, 3) := by decide +kernel
theorem dX4_exchange_33 : decode cX4_exchange 33 = .ok (.sipush 259, 3) := by decide +kernel
theorem dX4_exchange_36 : decode cX4_exchange 36 = .ok (.iload_n 1, 1) := by decide +kernel
theorem dX4_exchange_37 : decode cX4_exchange 37 = .ok (.iadd, 1) := by decide +kernel
theorem dX4_exchange_38 : decode cX4_exchange 38 = .ok (.iaload, 1) := by decide +kernel
theorem dX4_exchange_39 : decode cX4_exchange 39 = .ok (.istore_n 3, 1) := by decide +kernel
theorem dX4_exchange_40 : decode cX4_exchange 40 = .ok (.aload_n 0, 1) := by decide +kernel
theorem dX4_exchange_41 : decode cX4_exchange 41 = .ok (.getfield 7, 3) := by decide +kernel
theorem dX4_exchange_44 : decode cX4_exchange 44 = .ok (.sipush 259, 3) := by decide +kernel
theorem dX4_exchange_47 : decode cX4_exchange 47 = .ok (.iload_n 1, 1) := by decide +kernel
theorem dX4_exchange_48 : decode cX4_exchange 48 = .ok (.iadd, 1) := by decide +kernel
theorem dX4_exchange_49 : decode cX4_exchange 49 = .ok (.aload_n 0, 1) := by decide +kernel
theorem dX4_exchange_50 : decode cX4_exchange 50 = .ok (.getfield 7, 3) := by decide +kernel
theorem dX4_exchange_53 : decode cX4_exchange 53 = .ok (.sipush 259, 3) := by decide +kernel
theorem dX4_exchange_56 : decode cX4_exchange 56 = .ok (.iload_n 2, 1) := by decide +kernel
theorem dX4_exchange_57 : decode cX4_exchange 57 = .ok (.iadd, 1) := by decide +kernel
theorem dX4_exchange_58 : decode cX4_exchange 58 = .ok (.iaload, 1) := by decide +kernel
theorem dX4_exchange_59 : decode cX4_exchange 59 = .ok (.iastore, 1) := by decide +kernel
theorem dX4_exchange_60 : decode cX4_exchange 60 = .ok (.aload_n 0, 1) := by decide +kernel
theorem dX4_exchange_61 : decode cX4_exchange 61 = .ok (.getfield 7, 3) := by decide +kernel
theorem dX4_exchange_64 : decode cX4_exchange 64 = .ok (.sipush 259, 3) := by decide +kernel
theorem dX4_exchange_67 : decode cX4_exchange 67 = .ok (.iload_n 2, 1) := by decide +kernel
theorem dX4_exchange_68 : decode cX4_exchange 68 = .ok (.iadd, 1) := by decide +kernel
theorem dX4_exchange_69 : decode cX4_exchange 69 = .ok (.iload_n 3, 1) := by decide +kernel
theorem dX4_exchange_70 : decode cX4_exchange 70 = .ok (.iastore, 1) := by decide +kernel
theorem dX4_exchange_71 : decode cX4_exchange 71 = .ok (.aload_n 0, 1) := by decide +kernel
theorem dX4_exchange_72 : decode cX4_exchange 72 = .ok (.getfield 7, 3) := by decide +kernel
theorem dX4_exchange_75 : decode cX4_exchange 75 = .ok (.sipush 275, 3) := by decide +kernel
theorem dX4_exchange_78 : decode cX4_exchange 78 = .ok (.iload_n 1, 1) := by decide +kernel
theorem dX4_exchange_79 : decode cX4_exchange 79 = .ok (.iadd, 1) := by decide +kernel
theorem dX4_exchange_80 : decode cX4_exchange 80 = .ok (.iconst 0, 1) := by decide +kernel
theorem dX4_exchange_81 : decode cX4_exchange 81 = .ok (.iastore, 1) := by decide +kernel
theorem dX4_exchange_82 : decode cX4_exchange 82 = .ok (.aload_n 0, 1) := by decide +kernel
theorem dX4_exchange_83 : decode cX4_exchange 83 = .ok (.getfield 7, 3) := by decide +kernel
theorem dX4_exchange_86 : decode cX4_exchange 86 = .ok (.sipush 275, 3) := by decide +kernel
theorem dX4_exchange_89 : decode cX4_exchange 89 = .ok (.iload_n 2, 1) := by decide +kernel
theorem dX4_exchange_90 : decode cX4_exchange 90 = .ok (.iadd, 1) := by decide +kernel
theorem dX4_exchange_91 : decode cX4_exchange 91 = .ok (.iconst 0, 1) := by decide +kernel
theorem dX4_exchange_92 : decode cX4_exchange 92 = .ok (.iastore, 1) := by decide +kernel
theorem dX4_exchange_93 : decode cX4_exchange 93 = .ok (.aload_n 0, 1) := by decide +kernel
theorem dX4_exchange_94 : decode cX4_exchange 94 = .ok (.getfield 7, 3) := by decide +kernel
theorem dX4_exchange_97 : decode cX4_exchange 97 = .ok (.sipush 259, 3) := by decide +kernel
theorem dX4_exchange_100 : decode cX4_exchange 100 = .ok (.iload_n 1, 1) := by decide +kernel
theorem dX4_exchange_101 : decode cX4_exchange 101 = .ok (.iadd, 1) := by decide +kernel
theorem dX4_exchange_102 : decode cX4_exchange 102 = .ok (.iaload, 1) := by decide +kernel
theorem dX4_exchange_103 : decode cX4_exchange 103 = .ok (.ireturn, 1) := by decide +kernel
set_option maxRecDepth 20000 in
theorem ggX4_wear_X4_isSlot : GoodIn wsX4_wear wsX4_isSlot := goodIn_r _ [7, 8, 9, 6, 10] (by decide +kernel) (by decide +kernel)
set_option maxRecDepth 20000 in
theorem gX4_wear_X4_isSlot : GoodIn wsX4_wear (va_wsS RX4 98 yX4_isSlot wsX4_isSlot) := goodIn_app (goodIn_of _ (by decide +kernel)) ggX4_wear_X4_isSlot
set_option maxRecDepth 20000 in
theorem ggX4_wear_X4_in : GoodIn wsX4_wear wsX4_in := goodIn_r _ [10] (by decide +kernel) (by decide +kernel)
set_option maxRecDepth 20000 in
theorem gX4_wear_X4_in : GoodIn wsX4_wear (va_wsS RX4 29 yX4_in wsX4_in) := goodIn_app (goodIn_of _ (by decide +kernel)) ggX4_wear_X4_in
set_option maxRecDepth 20000 in
theorem ggX4_wear_X4_fails : GoodIn wsX4_wear wsX4_fails := goodIn_r _ [14, 1, 27, 28, 29, 30, 31, 32, 33, 34, 35, 36, 37, 38] (by decide +kernel) (by decide +kernel)
set_option maxRecDepth 20000 in
theorem gX4_wear_X4_fails : GoodIn wsX4_wear (wsV RX4 40 RX4 yX4_fails wsX4_fails) := goodIn_app (goodIn_of _ (by decide +kernel)) ggX4_wear_X4_fails
set_option maxRecDepth 20000 in
theorem ggX4_wear_X4_worn : GoodIn wsX4_wear wsX4_worn := goodIn_r _ [17] (by decide +kernel) (by decide +kernel)
set_option maxRecDepth 20000 in
theorem gX4_wear_X4_worn : GoodIn wsX4_wear (va_wsS RX4 44 yX4_worn wsX4_worn) := goodIn_app (goodIn_of _ (by decide +kernel)) ggX4_wear_X4_worn
set_option maxRecDepth 20000 in
theorem ggX4_wear_X4_saves : GoodIn wsX4_wear wsX4_saves := goodIn_r _ [21, 22, 23, 2, 24, 25, 6, 26, 27, 28, 29, 30, 31, 32, 33, 34, 35, 36, 37, 38] (by decide +kernel) (by decide +kernel)
set_option maxRecDepth 20000 in
theorem gX4_wear_X4_saves : GoodIn wsX4_wear (wsV RX4 92 RX4 yX4_saves wsX4_saves) := goodIn_app (goodIn_of _ (by decide +kernel)) ggX4_wear_X4_saves
theorem dX4_wear_0 : decode cX4_wear 0 = .ok (.aload_n 0, 1) := by decide +kernel
theorem dX4_wear_1 : decode cX4_wear 1 = .ok (.iconst 0, 1) := by decide +kernel
theorem dX4_wear_2 : decode cX4_wear 2 = .ok (.putfield 25, 3) := by decide +kernel
theorem dX4_wear_5 : decode cX4_wear 5 = .ok (.iload_n 1, 1) := by decide +kernel
theorem dX4_wear_6 : decode cX4_wear 6 = .ok (.invokestatic 98, 3) := by decide +kernel
theorem dX4_wear_9 : decode cX4_wear 9 = .ok (.ifCond .eq 13, 3) := by decide +kernel
theorem dX4_wear_12 : decode cX4_wear 12 = .ok (.iload_n 2, 1) := by decide +kernel
theorem dX4_wear_13 : decode cX4_wear 13 = .ok (.iconst 0, 1) := by decide +kernel
theorem dX4_wear_14 : decode cX4_wear 14 = .ok (.bipush 12, 2) := by decide +kernel
theorem dX4_wear_16 : decode cX4_wear 16 = .ok (.invokestatic 29, 3) := by decide +kernel
theorem dX4_wear_19 : decode cX4_wear 19 = .ok (.ifCond .ne 9, 3) := by decide +kernel
theorem dX4_wear_22 : decode cX4_wear 22 = .ok (.aload_n 0, 1) := by decide +kernel
theorem dX4_wear_23 : decode cX4_wear 23 = .ok (.iconst 1, 1) := by decide +kernel
theorem dX4_wear_24 : decode cX4_wear 24 = .ok (.invokevirtual 40, 3) := by decide +kernel
theorem dX4_wear_27 : decode cX4_wear 27 = .ok (.ireturn, 1) := by decide +kernel
theorem dX4_wear_28 : decode cX4_wear 28 = .ok (.iload_n 3, 1) := by decide +kernel
theorem dX4_wear_29 : decode cX4_wear 29 = .ok (.iconst 1, 1) := by decide +kernel
theorem dX4_wear_30 : decode cX4_wear 30 = .ok (.sipush 999, 3) := by decide +kernel
theorem dX4_wear_33 : decode cX4_wear 33 = .ok (.invokestatic 29, 3) := by decide +kernel
theorem dX4_wear_36 : decode cX4_wear 36 = .ok (.ifCond .ne 9, 3) := by decide +kernel
theorem dX4_wear_39 : decode cX4_wear 39 = .ok (.aload_n 0, 1) := by decide +kernel
theorem dX4_wear_40 : decode cX4_wear 40 = .ok (.iconst 2, 1) := by decide +kernel
theorem dX4_wear_41 : decode cX4_wear 41 = .ok (.invokevirtual 40, 3) := by decide +kernel
theorem dX4_wear_44 : decode cX4_wear 44 = .ok (.ireturn, 1) := by decide +kernel
theorem dX4_wear_45 : decode cX4_wear 45 = .ok (.aload_n 0, 1) := by decide +kernel
theorem dX4_wear_46 : decode cX4_wear 46 = .ok (.getfield 7, 3) := by decide +kernel
theorem dX4_wear_49 : decode cX4_wear 49 = .ok (.iload_n 1, 1) := by decide +kernel
theorem dX4_wear_50 : decode cX4_wear 50 = .ok (.iload_n 2, 1) := by decide +kernel
theorem dX4_wear_51 : decode cX4_wear 51 = .ok (.invokestatic 44, 3) := by decide +kernel
theorem dX4_wear_54 : decode cX4_wear 54 = .ok (.iload_n 3, 1) := by decide +kernel
theorem dX4_wear_55 : decode cX4_wear 55 = .ok (.iadd, 1) := by decide +kernel
theorem dX4_wear_56 : decode cX4_wear 56 = .ok (.ldc 101, 2) := by decide +kernel
theorem dX4_wear_58 : decode cX4_wear 58 = .ok (.if_icmp .le 9, 3) := by decide +kernel
theorem dX4_wear_61 : decode cX4_wear 61 = .ok (.aload_n 0, 1) := by decide +kernel
theorem dX4_wear_62 : decode cX4_wear 62 = .ok (.iconst 3, 1) := by decide +kernel
theorem dX4_wear_63 : decode cX4_wear 63 = .ok (.invokevirtual 40, 3) := by decide +kernel
theorem dX4_wear_66 : decode cX4_wear 66 = .ok (.ireturn, 1) := by decide +kernel
theorem dX4_wear_67 : decode cX4_wear 67 = .ok (.aload_n 0, 1) := by decide +kernel
theorem dX4_wear_68 : decode cX4_wear 68 = .ok (.invokevirtual 92, 3) := by decide +kernel
theorem dX4_wear_71 : decode cX4_wear 71 = .ok (.aload_n 0, 1) := by decide +kernel
theorem dX4_wear_72 : decode cX4_wear 72 = .ok (.getfield 7, 3) := by decide +kernel
theorem dX4_wear_75 : decode cX4_wear 75 = .ok (.bipush 25, 2) := by decide +kernel
theorem dX4_wear_77 : decode cX4_wear 77 = .ok (.bipush 13, 2) := by decide +kernel
theorem dX4_wear_79 : decode cX4_wear 79 = .ok (.iload_n 1, 1) := by decide +kernel
theorem dX4_wear_80 : decode cX4_wear 80 = .ok (.imul, 1) := by decide +kernel
theorem dX4_wear_81 : decode cX4_wear 81 = .ok (.iadd, 1) := by decide +kernel
theorem dX4_wear_82 : decode cX4_wear 82 = .ok (.iload_n 2, 1) := by decide +kernel
theorem dX4_wear_83 : decode cX4_wear 83 = .ok (.iadd, 1) := by decide +kernel
theorem dX4_wear_84 : decode cX4_wear 84 = .ok (.dup2, 1) := by decide +kernel
theorem dX4_wear_85 : decode cX4_wear 85 = .ok (.iaload, 1) := by decide +kernel
theorem dX4_wear_86 : decode cX4_wear 86 = .ok (.iload_n 3, 1) := by decide +kernel
theorem dX4_wear_87 : decode cX4_wear 87 = .ok (.iadd, 1) := by decide +kernel
theorem dX4_wear_88 : decode cX4_wear 88 = .ok (.iastore, 1) := by decide +kernel
theorem dX4_wear_89 : decode cX4_wear 89 = .ok (.aload_n 0, 1) := by decide +kernel
theorem dX4_wear_90 : decode cX4_wear 90 = .ok (.getfield 7, 3) := by decide +kernel
theorem dX4_wear_93 : decode cX4_wear 93 = .ok (.iload_n 1, 1) := by decide +kernel
theorem dX4_wear_94 : decode cX4_wear 94 = .ok (.iload_n 2, 1) := by decide +kernel
theorem dX4_wear_95 : decode cX4_wear 95 = .ok (.invokestatic 44, 3) := by decide +kernel
theorem dX4_wear_98 : decode cX4_wear 98 = .ok (.ireturn, 1) := by decide +kernel
set_option maxRecDepth 20000 in
theorem ggX4_set_X4_in : GoodIn wsX4_set wsX4_in := goodIn_r _ [6] (by decide +kernel) (by decide +kernel)
set_option maxRecDepth 20000 in
theorem gX4_set_X4_in : GoodIn wsX4_set (va_wsS RX4 29 yX4_in wsX4_in) := goodIn_app (goodIn_of _ (by decide +kernel)) ggX4_set_X4_in
set_option maxRecDepth 20000 in
theorem ggX4_set_X4_fails : GoodIn wsX4_set wsX4_fails := goodIn_r _ [10, 1, 20, 21, 22, 23, 24, 25, 26, 27, 28, 29, 30, 31] (by decide +kernel) (by decide +kernel)
set_option maxRecDepth 20000 in
theorem gX4_set_X4_fails : GoodIn wsX4_set (wsV RX4 40 RX4 yX4_fails wsX4_fails) := goodIn_app (goodIn_of _ (by decide +kernel)) ggX4_set_X4_fails
set_option maxRecDepth 20000 in
theorem ggX4_set_X4_saves : GoodIn wsX4_set wsX4_saves := goodIn_r _ [14, 15, 16, 2, 17, 18, 5, 19, 20, 21, 22, 23, 24, 25, 26, 27, 28, 29, 30, 31] (by decide +kernel) (by decide +kernel)
set_option maxRecDepth 20000 in
theorem gX4_set_X4_saves : GoodIn wsX4_set (wsV RX4 92 RX4 yX4_saves wsX4_saves) := goodIn_app (goodIn_of _ (by decide +kernel)) ggX4_set_X4_saves
theorem dX4_set_0 : decode cX4_set 0 = .ok (.aload_n 0, 1) := by decide +kernel
theorem dX4_set_1 : decode cX4_set 1 = .ok (.iconst 0, 1) := by decide +kernel
theorem dX4_set_2 : decode cX4_set 2 = .ok (.putfield 25, 3) := by decide +kernel
theorem dX4_set_5 : decode cX4_set 5 = .ok (.iload_n 1, 1) := by decide +kernel
theorem dX4_set_6 : decode cX4_set 6 = .ok (.iconst 0, 1) := by decide +kernel
theorem dX4_set_7 : decode cX4_set 7 = .ok (.iconst 1, 1) := by decide +kernel
theorem dX4_set_8 : decode cX4_set 8 = .ok (.invokestatic 29, 3) := by decide +kernel
theorem dX4_set_11 : decode cX4_set 11 = .ok (.ifCond .ne 9, 3) := by decide +kernel
theorem dX4_set_14 : decode cX4_set 14 = .ok (.aload_n 0, 1) := by decide +kernel
theorem dX4_set_15 : decode cX4_set 15 = .ok (.iconst 1, 1) := by decide +kernel
theorem dX4_set_16 : decode cX4_set 16 = .ok (.invokevirtual 40, 3) := by decide +kernel
theorem dX4_set_19 : decode cX4_set 19 = .ok (.ireturn, 1) := by decide +kernel
theorem dX4_set_20 : decode cX4_set 20 = .ok (.iload_n 1, 1) := by decide +kernel
theorem dX4_set_21 : decode cX4_set 21 = .ok (.ifCond .ne 17, 3) := by decide +kernel
theorem dX4_set_24 : decode cX4_set 24 = .ok (.iload_n 2, 1) := by decide +kernel
theorem dX4_set_25 : decode cX4_set 25 = .ok (.iconst 1, 1) := by decide +kernel
theorem dX4_set_26 : decode cX4_set 26 = .ok (.sipush 999, 3) := by decide +kernel
theorem dX4_set_29 : decode cX4_set 29 = .ok (.invokestatic 29, 3) := by decide +kernel
theorem dX4_set_32 : decode cX4_set 32 = .ok (.ifCond .eq 16, 3) := by decide +kernel
theorem dX4_set_35 : decode cX4_set 35 = .ok (.goto 19, 3) := by decide +kernel
theorem dX4_set_38 : decode cX4_set 38 = .ok (.iload_n 2, 1) := by decide +kernel
theorem dX4_set_39 : decode cX4_set 39 = .ok (.iconst 0, 1) := by decide +kernel
theorem dX4_set_40 : decode cX4_set 40 = .ok (.bipush 99, 2) := by decide +kernel
theorem dX4_set_42 : decode cX4_set 42 = .ok (.invokestatic 29, 3) := by decide +kernel
theorem dX4_set_45 : decode cX4_set 45 = .ok (.ifCond .ne 9, 3) := by decide +kernel
theorem dX4_set_48 : decode cX4_set 48 = .ok (.aload_n 0, 1) := by decide +kernel
theorem dX4_set_49 : decode cX4_set 49 = .ok (.iconst 2, 1) := by decide +kernel
theorem dX4_set_50 : decode cX4_set 50 = .ok (.invokevirtual 40, 3) := by decide +kernel
theorem dX4_set_53 : decode cX4_set 53 = .ok (.ireturn, 1) := by decide +kernel
theorem dX4_set_54 : decode cX4_set 54 = .ok (.aload_n 0, 1) := by decide +kernel
theorem dX4_set_55 : decode cX4_set 55 = .ok (.invokevirtual 92, 3) := by decide +kernel
theorem dX4_set_58 : decode cX4_set 58 = .ok (.aload_n 0, 1) := by decide +kernel
theorem dX4_set_59 : decode cX4_set 59 = .ok (.getfield 7, 3) := by decide +kernel
theorem dX4_set_62 : decode cX4_set 62 = .ok (.iload_n 1, 1) := by decide +kernel
theorem dX4_set_63 : decode cX4_set 63 = .ok (.iaload, 1) := by decide +kernel
theorem dX4_set_64 : decode cX4_set 64 = .ok (.istore_n 3, 1) := by decide +kernel
theorem dX4_set_65 : decode cX4_set 65 = .ok (.aload_n 0, 1) := by decide +kernel
theorem dX4_set_66 : decode cX4_set 66 = .ok (.getfield 7, 3) := by decide +kernel
theorem dX4_set_69 : decode cX4_set 69 = .ok (.iload_n 1, 1) := by decide +kernel
theorem dX4_set_70 : decode cX4_set 70 = .ok (.iload_n 2, 1) := by decide +kernel
theorem dX4_set_71 : decode cX4_set 71 = .ok (.iastore, 1) := by decide +kernel
theorem dX4_set_72 : decode cX4_set 72 = .ok (.iload_n 3, 1) := by decide +kernel
theorem dX4_set_73 : decode cX4_set 73 = .ok (.ireturn, 1) := by decide +kernel
set_option maxRecDepth 20000 in
theorem ggX4_append_X4_in : GoodIn wsX4_append wsX4_in := goodIn_r _ [7] (by decide +kernel) (by decide +kernel)
set_option maxRecDepth 20000 in
theorem gX4_append_X4_in : GoodIn wsX4_append (va_wsS RX4 29 yX4_in wsX4_in) := goodIn_app (goodIn_of _ (by decide +kernel)) ggX4_append_X4_in
set_option maxRecDepth 20000 in
theorem ggX4_append_X4_fails : GoodIn wsX4_append wsX4_fails := goodIn_r _ [11, 1, 12, 13, 14, 15, 16, 17, 18, 19, 20, 21, 22, 23] (by decide +kernel) (by decide +kernel)
set_option maxRecDepth 20000 in
theorem gX4_append_X4_fails : GoodIn wsX4_append (wsV RX4 40 RX4 yX4_fails wsX4_fails) := goodIn_app (goodIn_of _ (by decide +kernel)) ggX4_append_X4_fails
theorem dX4_append_0 : decode cX4_append 0 = .ok (.aload_n 0, 1) := by decide +kernel
theorem dX4_append_1 : decode cX4_append 1 = .ok (.iconst 0, 1) := by decide +kernel
theorem dX4_append_2 : decode cX4_append 2 = .ok (.putfield 25, 3) := by decide +kernel
theorem dX4_append_5 : decode cX4_append 5 = .ok (.iload_n 1, 1) := by decide +kernel
theorem dX4_append_6 : decode cX4_append 6 = .ok (.bipush 33, 2) := by decide +kernel
theorem dX4_append_8 : decode cX4_append 8 = .ok (.bipush 126, 2) := by decide +kernel
theorem dX4_append_10 : decode cX4_append 10 = .ok (.invokestatic 29, 3) := by decide +kernel
theorem dX4_append_13 : decode cX4_append 13 = .ok (.ifCond .ne 9, 3) := by decide +kernel
theorem dX4_append_16 : decode cX4_append 16 = .ok (.aload_n 0, 1) := by decide +kernel
theorem dX4_append_17 : decode cX4_append 17 = .ok (.iconst 1, 1) := by decide +kernel
theorem dX4_append_18 : decode cX4_append 18 = .ok (.invokevirtual 40, 3) := by decide +kernel
theorem dX4_append_21 : decode cX4_append 21 = .ok (.ireturn, 1) := by decide +kernel
theorem dX4_append_22 : decode cX4_append 22 = .ok (.aload_n 0, 1) := by decide +kernel
theorem dX4_append_23 : decode cX4_append 23 = .ok (.getfield 102, 3) := by decide +kernel
theorem dX4_append_26 : decode cX4_append 26 = .ok (.bipush 60, 2) := by decide +kernel
theorem dX4_append_28 : decode cX4_append 28 = .ok (.if_icmp .ne 9, 3) := by decide +kernel
theorem dX4_append_31 : decode cX4_append 31 = .ok (.aload_n 0, 1) := by decide +kernel
theorem dX4_append_32 : decode cX4_append 32 = .ok (.iconst 2, 1) := by decide +kernel
theorem dX4_append_33 : decode cX4_append 33 = .ok (.invokevirtual 40, 3) := by decide +kernel
theorem dX4_append_36 : decode cX4_append 36 = .ok (.ireturn, 1) := by decide +kernel
theorem dX4_append_37 : decode cX4_append 37 = .ok (.aload_n 0, 1) := by decide +kernel
theorem dX4_append_38 : decode cX4_append 38 = .ok (.getfield 19, 3) := by decide +kernel
theorem dX4_append_41 : decode cX4_append 41 = .ok (.aload_n 0, 1) := by decide +kernel
theorem dX4_append_42 : decode cX4_append 42 = .ok (.getfield 102, 3) := by decide +kernel
theorem dX4_append_45 : decode cX4_append 45 = .ok (.iload_n 1, 1) := by decide +kernel
theorem dX4_append_46 : decode cX4_append 46 = .ok (.iastore, 1) := by decide +kernel
theorem dX4_append_47 : decode cX4_append 47 = .ok (.aload_n 0, 1) := by decide +kernel
theorem dX4_append_48 : decode cX4_append 48 = .ok (.dup, 1) := by decide +kernel
theorem dX4_append_49 : decode cX4_append 49 = .ok (.getfield 102, 3) := by decide +kernel
theorem dX4_append_52 : decode cX4_append 52 = .ok (.iconst 1, 1) := by decide +kernel
theorem dX4_append_53 : decode cX4_append 53 = .ok (.iadd, 1) := by decide +kernel
theorem dX4_append_54 : decode cX4_append 54 = .ok (.putfield 102, 3) := by decide +kernel
theorem dX4_append_57 : decode cX4_append 57 = .ok (.aload_n 0, 1) := by decide +kernel
theorem dX4_append_58 : decode cX4_append 58 = .ok (.getfield 102, 3) := by decide +kernel
theorem dX4_append_61 : decode cX4_append 61 = .ok (.ireturn, 1) := by decide +kernel
theorem dX4_clearBuffer_0 : decode cX4_clearBuffer 0 = .ok (.aload_n 0, 1) := by decide +kernel
theorem dX4_clearBuffer_1 : decode cX4_clearBuffer 1 = .ok (.iconst 0, 1) := by decide +kernel
theorem dX4_clearBuffer_2 : decode cX4_clearBuffer 2 = .ok (.putfield 25, 3) := by decide +kernel
theorem dX4_clearBuffer_5 : decode cX4_clearBuffer 5 = .ok (.aload_n 0, 1) := by decide +kernel
theorem dX4_clearBuffer_6 : decode cX4_clearBuffer 6 = .ok (.getfield 102, 3) := by decide +kernel
theorem dX4_clearBuffer_9 : decode cX4_clearBuffer 9 = .ok (.istore_n 1, 1) := by decide +kernel
theorem dX4_clearBuffer_10 : decode cX4_clearBuffer 10 = .ok (.aload_n 0, 1) := by decide +kernel
theorem dX4_clearBuffer_11 : decode cX4_clearBuffer 11 = .ok (.iconst 0, 1) := by decide +kernel
theorem dX4_clearBuffer_12 : decode cX4_clearBuffer 12 = .ok (.putfield 102, 3) := by decide +kernel
theorem dX4_clearBuffer_15 : decode cX4_clearBuffer 15 = .ok (.iload_n 1, 1) := by decide +kernel
theorem dX4_clearBuffer_16 : decode cX4_clearBuffer 16 = .ok (.ireturn, 1) := by decide +kernel
set_option maxRecDepth 20000 in
theorem ggX4_isAt_X4_in : GoodIn wsX4_isAt wsX4_in := goodIn_r _ [7] (by decide +kernel) (by decide +kernel)
set_option maxRecDepth 20000 in
theorem gX4_isAt_X4_in : GoodIn wsX4_isAt (va_wsS RX4 29 yX4_in wsX4_in) := goodIn_app (goodIn_of _ (by decide +kernel)) ggX4_isAt_X4_in
theorem dX4_isAt_0 : decode cX4_isAt 0 = .ok (.aload_n 0, 1) := by decide +kernel
theorem dX4_isAt_1 : decode cX4_isAt 1 = .ok (.getfield 105, 3) := by decide +kernel
theorem dX4_isAt_4 : decode cX4_isAt 4 = .ok (.aload_n 0, 1) := by decide +kernel
theorem dX4_isAt_5 : decode cX4_isAt 5 = .ok (.getfield 102, 3) := by decide +kernel
theorem dX4_isAt_8 : decode cX4_isAt 8 = .ok (.if_icmp .ge 24, 3) := by decide +kernel
theorem dX4_isAt_11 : decode cX4_isAt 11 = .ok (.aload_n 0, 1) := by decide +kernel
theorem dX4_isAt_12 : decode cX4_isAt 12 = .ok (.getfield 19, 3) := by decide +kernel
theorem dX4_isAt_15 : decode cX4_isAt 15 = .ok (.aload_n 0, 1) := by decide +kernel
theorem dX4_isAt_16 : decode cX4_isAt 16 = .ok (.getfield 105, 3) := by decide +kernel
theorem dX4_isAt_19 : decode cX4_isAt 19 = .ok (.iaload, 1) := by decide +kernel
theorem dX4_isAt_20 : decode cX4_isAt 20 = .ok (.iload_n 1, 1) := by decide +kernel
theorem dX4_isAt_21 : decode cX4_isAt 21 = .ok (.iload_n 2, 1) := by decide +kernel
theorem dX4_isAt_22 : decode cX4_isAt 22 = .ok (.invokestatic 29, 3) := by decide +kernel
theorem dX4_isAt_25 : decode cX4_isAt 25 = .ok (.ifCond .eq 7, 3) := by decide +kernel
theorem dX4_isAt_28 : decode cX4_isAt 28 = .ok (.iconst 1, 1) := by decide +kernel
theorem dX4_isAt_29 : decode cX4_isAt 29 = .ok (.goto 4, 3) := by decide +kernel
theorem dX4_isAt_32 : decode cX4_isAt 32 = .ok (.iconst 0, 1) := by decide +kernel
theorem dX4_isAt_33 : decode cX4_isAt 33 = .ok (.ireturn, 1) := by decide +kernel
theorem dX4_stops_0 : decode cX4_stops 0 = .ok (.aload_n 0, 1) := by decide +kernel
theorem dX4_stops_1 : decode cX4_stops 1 = .ok (.aload_n 0, 1) := by decide +kernel
theorem dX4_stops_2 : decode cX4_stops 2 = .ok (.getfield 105, 3) := by decide +kernel
theorem dX4_stops_5 : decode cX4_stops 5 = .ok (.aload_n 0, 1) := by decide +kernel
theorem dX4_stops_6 : decode cX4_stops 6 = .ok (.getfield 102, 3) := by decide +kernel
theorem dX4_stops_9 : decode cX4_stops 9 = .ok (.if_icmp .ge 7, 3) := by decide +kernel
theorem dX4_stops_12 : decode cX4_stops 12 = .ok (.iconst 1, 1) := by decide +kernel
theorem dX4_stops_13 : decode cX4_stops 13 = .ok (.goto 4, 3) := by decide +kernel
theorem dX4_stops_16 : decode cX4_stops 16 = .ok (.iconst 0, 1) := by decide +kernel
theorem dX4_stops_17 : decode cX4_stops 17 = .ok (.putfield 108, 3) := by decide +kernel
theorem dX4_stops_20 : decode cX4_stops 20 = .ok (.iconst 0, 1) := by decide +kernel
theorem dX4_stops_21 : decode cX4_stops 21 = .ok (.ireturn, 1) := by decide +kernel
set_option maxRecDepth 20000 in
theorem ggX4_isValue_X4_isAt : GoodIn wsX4_isValue wsX4_isAt := goodIn_r _ [8, 2, 9, 1, 10, 11, 7, 12, 21, 22, 23, 24, 25, 26, 27, 28, 29, 30, 31, 32] (by decide +kernel) (by decide +kernel)
set_option maxRecDepth 20000 in
theorem gX4_isValue_X4_isAt : GoodIn wsX4_isValue (wsV RX4 112 RX4 yX4_isAt wsX4_isAt) := goodIn_app (goodIn_of _ (by decide +kernel)) ggX4_isValue_X4_isAt
set_option maxRecDepth 20000 in
theorem ggX4_isValue_X4_stops : GoodIn wsX4_isValue wsX4_stops := goodIn_r _ [16, 2, 9, 17, 21, 22, 23, 24, 25, 26, 27, 28, 29, 30, 31, 32] (by decide +kernel) (by decide +kernel)
set_option maxRecDepth 20000 in
theorem gX4_isValue_X4_stops : GoodIn wsX4_isValue (wsV RX4 116 RX4 yX4_stops wsX4_stops) := goodIn_app (goodIn_of _ (by decide +kernel)) ggX4_isValue_X4_stops
set_option maxRecDepth 20000 in
theorem ggX4_isValue_X4_isNumber : GoodIn wsX4_isValue wsX4_isNumber := goodIn_r _ [20, 10, 11, 7, 12] (by decide +kernel) (by decide +kernel)
set_option maxRecDepth 20000 in
theorem gX4_isValue_X4_isNumber : GoodIn wsX4_isValue (va_wsS RX4 89 yX4_isNumber wsX4_isNumber) := goodIn_app (goodIn_of _ (by decide +kernel)) ggX4_isValue_X4_isNumber
theorem dX4_isValue_0 : decode cX4_isValue 0 = .ok (.aload_n 0, 1) := by decide +kernel
theorem dX4_isValue_1 : decode cX4_isValue 1 = .ok (.bipush 48, 2) := by decide +kernel
theorem dX4_isValue_3 : decode cX4_isValue 3 = .ok (.bipush 57, 2) := by decide +kernel
theorem dX4_isValue_5 : decode cX4_isValue 5 = .ok (.invokevirtual 112, 3) := by decide +kernel
theorem dX4_isValue_8 : decode cX4_isValue 8 = .ok (.ifCond .ne 8, 3) := by decide +kernel
theorem dX4_isValue_11 : decode cX4_isValue 11 = .ok (.aload_n 0, 1) := by decide +kernel
theorem dX4_isValue_12 : decode cX4_isValue 12 = .ok (.invokevirtual 116, 3) := by decide +kernel
theorem dX4_isValue_15 : decode cX4_isValue 15 = .ok (.ireturn, 1) := by decide +kernel
theorem dX4_isValue_16 : decode cX4_isValue 16 = .ok (.aload_n 0, 1) := by decide +kernel
theorem dX4_isValue_17 : decode cX4_isValue 17 = .ok (.aload_n 0, 1) := by decide +kernel
theorem dX4_isValue_18 : decode cX4_isValue 18 = .ok (.getfield 19, 3) := by decide +kernel
theorem dX4_isValue_21 : decode cX4_isValue 21 = .ok (.aload_n 0, 1) := by decide +kernel
theorem dX4_isValue_22 : decode cX4_isValue 22 = .ok (.getfield 105, 3) := by decide +kernel
theorem dX4_isValue_25 : decode cX4_isValue 25 = .ok (.iaload, 1) := by decide +kernel
theorem dX4_isValue_26 : decode cX4_isValue 26 = .ok (.bipush 48, 2) := by decide +kernel
theorem dX4_isValue_28 : decode cX4_isValue 28 = .ok (.isub, 1) := by decide +kernel
theorem dX4_isValue_29 : decode cX4_isValue 29 = .ok (.putfield 120, 3) := by decide +kernel
theorem dX4_isValue_32 : decode cX4_isValue 32 = .ok (.aload_n 0, 1) := by decide +kernel
theorem dX4_isValue_33 : decode cX4_isValue 33 = .ok (.dup, 1) := by decide +kernel
theorem dX4_isValue_34 : decode cX4_isValue 34 = .ok (.getfield 105, 3) := by decide +kernel
theorem dX4_isValue_37 : decode cX4_isValue 37 = .ok (.iconst 1, 1) := by decide +kernel
theorem dX4_isValue_38 : decode cX4_isValue 38 = .ok (.iadd, 1) := by decide +kernel
theorem dX4_isValue_39 : decode cX4_isValue 39 = .ok (.putfield 105, 3) := by decide +kernel
theorem dX4_isValue_42 : decode cX4_isValue 42 = .ok (.aload_n 0, 1) := by decide +kernel
theorem dX4_isValue_43 : decode cX4_isValue 43 = .ok (.getfield 120, 3) := by decide +kernel
theorem dX4_isValue_46 : decode cX4_isValue 46 = .ok (.ifCond .le 77, 3) := by decide +kernel
theorem dX4_isValue_49 : decode cX4_isValue 49 = .ok (.aload_n 0, 1) := by decide +kernel
theorem dX4_isValue_50 : decode cX4_isValue 50 = .ok (.bipush 48, 2) := by decide +kernel
theorem dX4_isValue_52 : decode cX4_isValue 52 = .ok (.bipush 57, 2) := by decide +kernel
theorem dX4_isValue_54 : decode cX4_isValue 54 = .ok (.invokevirtual 112, 3) := by decide +kernel
theorem dX4_isValue_57 : decode cX4_isValue 57 = .ok (.ifCond .eq 66, 3) := by decide +kernel
theorem dX4_isValue_60 : decode cX4_isValue 60 = .ok (.bipush 10, 2) := by decide +kernel
theorem dX4_isValue_62 : decode cX4_isValue 62 = .ok (.aload_n 0, 1) := by decide +kernel
theorem dX4_isValue_63 : decode cX4_isValue 63 = .ok (.getfield 120, 3) := by decide +kernel
theorem dX4_isValue_66 : decode cX4_isValue 66 = .ok (.imul, 1) := by decide +kernel
theorem dX4_isValue_67 : decode cX4_isValue 67 = .ok (.aload_n 0, 1) := by decide +kernel
theorem dX4_isValue_68 : decode cX4_isValue 68 = .ok (.getfield 19, 3) := by decide +kernel
theorem dX4_isValue_71 : decode cX4_isValue 71 = .ok (.aload_n 0, 1) := by decide +kernel
theorem dX4_isValue_72 : decode cX4_isValue 72 = .ok (.getfield 105, 3) := by decide +kernel
theorem dX4_isValue_75 : decode cX4_isValue 75 = .ok (.iaload, 1) := by decide +kernel
theorem dX4_isValue_76 : decode cX4_isValue 76 = .ok (.iadd, 1) := by decide +kernel
theorem dX4_isValue_77 : decode cX4_isValue 77 = .ok (.bipush 48, 2) := by decide +kernel
theorem dX4_isValue_79 : decode cX4_isValue 79 = .ok (.isub, 1) := by decide +kernel
theorem dX4_isValue_80 : decode cX4_isValue 80 = .ok (.invokestatic 89, 3) := by decide +kernel
theorem dX4_isValue_83 : decode cX4_isValue 83 = .ok (.ifCond .eq 40, 3) := by decide +kernel
theorem dX4_isValue_86 : decode cX4_isValue 86 = .ok (.aload_n 0, 1) := by decide +kernel
theorem dX4_isValue_87 : decode cX4_isValue 87 = .ok (.bipush 10, 2) := by decide +kernel
theorem dX4_isValue_89 : decode cX4_isValue 89 = .ok (.aload_n 0, 1) := by decide +kernel
theorem dX4_isValue_90 : decode cX4_isValue 90 = .ok (.getfield 120, 3) := by decide +kernel
theorem dX4_isValue_93 : decode cX4_isValue 93 = .ok (.imul, 1) := by decide +kernel
theorem dX4_isValue_94 : decode cX4_isValue 94 = .ok (.aload_n 0, 1) := by decide +kernel
theorem dX4_isValue_95 : decode cX4_isValue 95 = .ok (.getfield 19, 3) := by decide +kernel
theorem dX4_isValue_98 : decode cX4_isValue 98 = .ok (.aload_n 0, 1) := by decide +kernel
theorem dX4_isValue_99 : decode cX4_isValue 99 = .ok (.getfield 105, 3) := by decide +kernel
theorem dX4_isValue_102 : decode cX4_isValue 102 = .ok (.iaload, 1) := by decide +kernel
theorem dX4_isValue_103 : decode cX4_isValue 103 = .ok (.iadd, 1) := by decide +kernel
theorem dX4_isValue_104 : decode cX4_isValue 104 = .ok (.bipush 48, 2) := by decide +kernel
theorem dX4_isValue_106 : decode cX4_isValue 106 = .ok (.isub, 1) := by decide +kernel
theorem dX4_isValue_107 : decode cX4_isValue 107 = .ok (.putfield 120, 3) := by decide +kernel
theorem dX4_isValue_110 : decode cX4_isValue 110 = .ok (.aload_n 0, 1) := by decide +kernel
theorem dX4_isValue_111 : decode cX4_isValue 111 = .ok (.dup, 1) := by decide +kernel
theorem dX4_isValue_112 : decode cX4_isValue 112 = .ok (.getfield 105, 3) := by decide +kernel
theorem dX4_isValue_115 : decode cX4_isValue 115 = .ok (.iconst 1, 1) := by decide +kernel
theorem dX4_isValue_116 : decode cX4_isValue 116 = .ok (.iadd, 1) := by decide +kernel
theorem dX4_isValue_117 : decode cX4_isValue 117 = .ok (.putfield 105, 3) := by decide +kernel
theorem dX4_isValue_120 : decode cX4_isValue 120 = .ok (.goto (-78), 3) := by decide +kernel
theorem dX4_isValue_123 : decode cX4_isValue 123 = .ok (.iconst 1, 1) := by decide +kernel
theorem dX4_isValue_124 : decode cX4_isValue 124 = .ok (.ireturn, 1) := by decide +kernel
set_option maxRecDepth 20000 in
theorem ggX4_isPart_X4_isAt : GoodIn wsX4_isPart wsX4_isAt := goodIn_r _ [10, 2, 11, 1, 12, 13, 9, 14, 27, 28, 29, 30, 31, 32, 33, 34, 35, 36, 37, 38] (by decide +kernel) (by decide +kernel)
set_option maxRecDepth 20000 in
theorem gX4_isPart_X4_isAt : GoodIn wsX4_isPart (wsV RX4 112 RX4 yX4_isAt wsX4_isAt) := goodIn_app (goodIn_of _ (by decide +kernel)) ggX4_isPart_X4_isAt
set_option maxRecDepth 20000 in
theorem ggX4_isPart_X4_stops : GoodIn wsX4_isPart wsX4_stops := goodIn_r _ [18, 2, 11, 19, 27, 28, 29, 30, 31, 32, 33, 34, 35, 36, 37, 38] (by decide +kernel) (by decide +kernel)
set_option maxRecDepth 20000 in
theorem gX4_isPart_X4_stops : GoodIn wsX4_isPart (wsV RX4 116 RX4 yX4_stops wsX4_stops) := goodIn_app (goodIn_of _ (by decide +kernel)) ggX4_isPart_X4_stops
set_option maxRecDepth 20000 in
theorem ggX4_isPart_X4_isValue : GoodIn wsX4_isPart wsX4_isValue := goodIn_r _ [23, 1, 2, 5, 6, 7, 8, 9, 10, 11, 12, 13, 14, 15, 16, 17, 18, 19, 24, 25, 26, 27, 28, 29, 30, 31, 32, 33, 34, 35, 36, 37, 38] (by decide +kernel) (by decide +kernel)
set_option maxRecDepth 20000 in
theorem gX4_isPart_X4_isValue : GoodIn wsX4_isPart (wsV RX4 123 RX4 yX4_isValue wsX4_isValue) := goodIn_app (goodIn_of _ (by decide +kernel)) ggX4_isPart_X4_isValue
theorem dX4_isPart_0 : decode cX4_isPart 0 = .ok (.aload_n 0, 1) := by decide +kernel
theorem dX4_isPart_1 : decode cX4_isPart 1 = .ok (.bipush 97, 2) := by decide +kernel
theorem dX4_isPart_3 : decode cX4_isPart 3 = .ok (.bipush 112, 2) := by decide +kernel
theorem dX4_isPart_5 : decode cX4_isPart 5 = .ok (.invokevirtual 112, 3) := by decide +kernel
theorem dX4_isPart_8 : decode cX4_isPart 8 = .ok (.ifCond .ne 8, 3) := by decide +kernel
theorem dX4_isPart_11 : decode cX4_isPart 11 = .ok (.aload_n 0, 1) := by decide +kernel
theorem dX4_isPart_12 : decode cX4_isPart 12 = .ok (.invokevirtual 116, 3) := by decide +kernel
theorem dX4_isPart_15 : decode cX4_isPart 15 = .ok (.ireturn, 1) := by decide +kernel
theorem dX4_isPart_16 : decode cX4_isPart 16 = .ok (.aload_n 0, 1) := by decide +kernel
theorem dX4_isPart_17 : decode cX4_isPart 17 = .ok (.getfield 19, 3) := by decide +kernel
theorem dX4_isPart_20 : decode cX4_isPart 20 = .ok (.aload_n 0, 1) := by decide +kernel
theorem dX4_isPart_21 : decode cX4_isPart 21 = .ok (.getfield 105, 3) := by decide +kernel
theorem dX4_isPart_24 : decode cX4_isPart 24 = .ok (.iaload, 1) := by decide +kernel
theorem dX4_isPart_25 : decode cX4_isPart 25 = .ok (.bipush 97, 2) := by decide +kernel
theorem dX4_isPart_27 : decode cX4_isPart 27 = .ok (.isub, 1) := by decide +kernel
theorem dX4_isPart_28 : decode cX4_isPart 28 = .ok (.istore_n 1, 1) := by decide +kernel
theorem dX4_isPart_29 : decode cX4_isPart 29 = .ok (.aload_n 0, 1) := by decide +kernel
theorem dX4_isPart_30 : decode cX4_isPart 30 = .ok (.dup, 1) := by decide +kernel
theorem dX4_isPart_31 : decode cX4_isPart 31 = .ok (.getfield 105, 3) := by decide +kernel
theorem dX4_isPart_34 : decode cX4_isPart 34 = .ok (.iconst 1, 1) := by decide +kernel
theorem dX4_isPart_35 : decode cX4_isPart 35 = .ok (.iadd, 1) := by decide +kernel
theorem dX4_isPart_36 : decode cX4_isPart 36 = .ok (.putfield 105, 3) := by decide +kernel
theorem dX4_isPart_39 : decode cX4_isPart 39 = .ok (.aload_n 0, 1) := by decide +kernel
theorem dX4_isPart_40 : decode cX4_isPart 40 = .ok (.bipush 61, 2) := by decide +kernel
theorem dX4_isPart_42 : decode cX4_isPart 42 = .ok (.bipush 61, 2) := by decide +kernel
theorem dX4_isPart_44 : decode cX4_isPart 44 = .ok (.invokevirtual 112, 3) := by decide +kernel
theorem dX4_isPart_47 : decode cX4_isPart 47 = .ok (.ifCond .ne 8, 3) := by decide +kernel
theorem dX4_isPart_50 : decode cX4_isPart 50 = .ok (.aload_n 0, 1) := by decide +kernel
theorem dX4_isPart_51 : decode cX4_isPart 51 = .ok (.invokevirtual 116, 3) := by decide +kernel
theorem dX4_isPart_54 : decode cX4_isPart 54 = .ok (.ireturn, 1) := by decide +kernel
theorem dX4_isPart_55 : decode cX4_isPart 55 = .ok (.iconst 1, 1) := by decide +kernel
theorem dX4_isPart_56 : decode cX4_isPart 56 = .ok (.istore_n 2, 1) := by decide +kernel
theorem dX4_isPart_57 : decode cX4_isPart 57 = .ok (.iload_n 2, 1) := by decide +kernel
theorem dX4_isPart_58 : decode cX4_isPart 58 = .ok (.ifCond .eq 73, 3) := by decide +kernel
theorem dX4_isPart_61 : decode cX4_isPart 61 = .ok (.aload_n 0, 1) := by decide +kernel
theorem dX4_isPart_62 : decode cX4_isPart 62 = .ok (.dup, 1) := by decide +kernel
theorem dX4_isPart_63 : decode cX4_isPart 63 = .ok (.getfield 105, 3) := by decide +kernel
theorem dX4_isPart_66 : decode cX4_isPart 66 = .ok (.iconst 1, 1) := by decide +kernel
theorem dX4_isPart_67 : decode cX4_isPart 67 = .ok (.iadd, 1) := by decide +kernel
theorem dX4_isPart_68 : decode cX4_isPart 68 = .ok (.putfield 105, 3) := by decide +kernel
theorem dX4_isPart_71 : decode cX4_isPart 71 = .ok (.aload_n 0, 1) := by decide +kernel
theorem dX4_isPart_72 : decode cX4_isPart 72 = .ok (.invokevirtual 123, 3) := by decide +kernel
theorem dX4_isPart_75 : decode cX4_isPart 75 = .ok (.ifCond .ne 5, 3) := by decide +kernel
theorem dX4_isPart_78 : decode cX4_isPart 78 = .ok (.iconst 0, 1) := by decide +kernel
theorem dX4_isPart_79 : decode cX4_isPart 79 = .ok (.ireturn, 1) := by decide +kernel
theorem dX4_isPart_80 : decode cX4_isPart 80 = .ok (.aload_n 0, 1) := by decide +kernel
theorem dX4_isPart_81 : decode cX4_isPart 81 = .ok (.getfield 22, 3) := by decide +kernel
theorem dX4_isPart_84 : decode cX4_isPart 84 = .ok (.iconst 2, 1) := by decide +kernel
theorem dX4_isPart_85 : decode cX4_isPart 85 = .ok (.aload_n 0, 1) := by decide +kernel
theorem dX4_isPart_86 : decode cX4_isPart 86 = .ok (.getfield 126, 3) := by decide +kernel
theorem dX4_isPart_89 : decode cX4_isPart 89 = .ok (.imul, 1) := by decide +kernel
theorem dX4_isPart_90 : decode cX4_isPart 90 = .ok (.iload_n 1, 1) := by decide +kernel
theorem dX4_isPart_91 : decode cX4_isPart 91 = .ok (.iastore, 1) := by decide +kernel
theorem dX4_isPart_92 : decode cX4_isPart 92 = .ok (.aload_n 0, 1) := by decide +kernel
theorem dX4_isPart_93 : decode cX4_isPart 93 = .ok (.getfield 22, 3) := by decide +kernel
theorem dX4_isPart_96 : decode cX4_isPart 96 = .ok (.iconst 2, 1) := by decide +kernel
theorem dX4_isPart_97 : decode cX4_isPart 97 = .ok (.aload_n 0, 1) := by decide +kernel
theorem dX4_isPart_98 : decode cX4_isPart 98 = .ok (.getfield 126, 3) := by decide +kernel
theorem dX4_isPart_101 : decode cX4_isPart 101 = .ok (.imul, 1) := by decide +kernel
theorem dX4_isPart_102 : decode cX4_isPart 102 = .ok (.iconst 1, 1) := by decide +kernel
theorem dX4_isPart_103 : decode cX4_isPart 103 = .ok (.iadd, 1) := by decide +kernel
theorem dX4_isPart_104 : decode cX4_isPart 104 = .ok (.aload_n 0, 1) := by decide +kernel
theorem dX4_isPart_105 : decode cX4_isPart 105 = .ok (.getfield 120, 3) := by decide +kernel
theorem dX4_isPart_108 : decode cX4_isPart 108 = .ok (.iastore, 1) := by decide +kernel
theorem dX4_isPart_109 : decode cX4_isPart 109 = .ok (.aload_n 0, 1) := by decide +kernel
theorem dX4_isPart_110 : decode cX4_isPart 110 = .ok (.dup, 1) := by decide +kernel
theorem dX4_isPart_111 : decode cX4_isPart 111 = .ok (.getfield 126, 3) := by decide +kernel
theorem dX4_isPart_114 : decode cX4_isPart 114 = .ok (.iconst 1, 1) := by decide +kernel
theorem dX4_isPart_115 : decode cX4_isPart 115 = .ok (.iadd, 1) := by decide +kernel
theorem dX4_isPart_116 : decode cX4_isPart 116 = .ok (.putfield 126, 3) := by decide +kernel
theorem dX4_isPart_119 : decode cX4_isPart 119 = .ok (.aload_n 0, 1) := by decide +kernel
theorem dX4_isPart_120 : decode cX4_isPart 120 = .ok (.bipush 44, 2) := by decide +kernel
theorem dX4_isPart_122 : decode cX4_isPart 122 = .ok (.bipush 44, 2) := by decide +kernel
theorem dX4_isPart_124 : decode cX4_isPart 124 = .ok (.invokevirtual 112, 3) := by decide +kernel
theorem dX4_isPart_127 : decode cX4_isPart 127 = .ok (.istore_n 2, 1) := by decide +kernel
theorem dX4_isPart_128 : decode cX4_isPart 128 = .ok (.goto (-71), 3) := by decide +kernel
theorem dX4_isPart_131 : decode cX4_isPart 131 = .ok (.iconst 1, 1) := by decide +kernel
theorem dX4_isPart_132 : decode cX4_isPart 132 = .ok (.ireturn, 1) := by decide +kernel
set_option maxRecDepth 20000 in
theorem ggX4_isText_X4_isPart : GoodIn wsX4_isText wsX4_isPart := goodIn_r _ [9, 10, 1, 11, 2, 12, 13, 14, 15, 8, 16, 4, 17, 18, 19, 20, 21, 22, 23, 3, 24, 25, 26, 27, 28, 29, 30, 31, 32, 33, 34, 35, 36, 37, 38, 39, 40, 41, 42] (by decide +kernel) (by decide +kernel)
set_option maxRecDepth 20000 in
theorem gX4_isText_X4_isPart : GoodIn wsX4_isText (wsV RX4 129 RX4 yX4_isPart wsX4_isPart) := goodIn_app (goodIn_of _ (by decide +kernel)) ggX4_isText_X4_isPart
set_option maxRecDepth 20000 in
theorem ggX4_isText_X4_isAt : GoodIn wsX4_isText wsX4_isAt := goodIn_r _ [16, 1, 4, 10, 17, 18, 8, 19, 31, 32, 33, 34, 35, 36, 37, 38, 39, 40, 41, 42] (by decide +kernel) (by decide +kernel)
set_option maxRecDepth 20000 in
theorem gX4_isText_X4_isAt : GoodIn wsX4_isText (wsV RX4 112 RX4 yX4_isAt wsX4_isAt) := goodIn_app (goodIn_of _ (by decide +kernel)) ggX4_isText_X4_isAt
theorem dX4_isText_0 : decode cX4_isText 0 = .ok (.aload_n 0, 1) := by decide +kernel
theorem dX4_isText_1 : decode cX4_isText 1 = .ok (.iconst 0, 1) := by decide +kernel
theorem dX4_isText_2 : decode cX4_isText 2 = .ok (.putfield 105, 3) := by decide +kernel
theorem dX4_isText_5 : decode cX4_isText 5 = .ok (.aload_n 0, 1) := by decide +kernel
theorem dX4_isText_6 : decode cX4_isText 6 = .ok (.iconst 0, 1) := by decide +kernel
theorem dX4_isText_7 : decode cX4_isText 7 = .ok (.putfield 126, 3) := by decide +kernel
theorem dX4_isText_10 : decode cX4_isText 10 = .ok (.aload_n 0, 1) := by decide +kernel
theorem dX4_isText_11 : decode cX4_isText 11 = .ok (.iconst 0, 1) := by decide +kernel
theorem dX4_isText_12 : decode cX4_isText 12 = .ok (.putfield 108, 3) := by decide +kernel
theorem dX4_isText_15 : decode cX4_isText 15 = .ok (.iconst 1, 1) := by decide +kernel
theorem dX4_isText_16 : decode cX4_isText 16 = .ok (.istore_n 1, 1) := by decide +kernel
theorem dX4_isText_17 : decode cX4_isText 17 = .ok (.iload_n 1, 1) := by decide +kernel
theorem dX4_isText_18 : decode cX4_isText 18 = .ok (.ifCond .eq 42, 3) := by decide +kernel
theorem dX4_isText_21 : decode cX4_isText 21 = .ok (.aload_n 0, 1) := by decide +kernel
theorem dX4_isText_22 : decode cX4_isText 22 = .ok (.invokevirtual 129, 3) := by decide +kernel
theorem dX4_isText_25 : decode cX4_isText 25 = .ok (.ifCond .ne 5, 3) := by decide +kernel
theorem dX4_isText_28 : decode cX4_isText 28 = .ok (.iconst 0, 1) := by decide +kernel
theorem dX4_isText_29 : decode cX4_isText 29 = .ok (.ireturn, 1) := by decide +kernel
theorem dX4_isText_30 : decode cX4_isText 30 = .ok (.aload_n 0, 1) := by decide +kernel
theorem dX4_isText_31 : decode cX4_isText 31 = .ok (.bipush 59, 2) := by decide +kernel
theorem dX4_isText_33 : decode cX4_isText 33 = .ok (.bipush 59, 2) := by decide +kernel
theorem dX4_isText_35 : decode cX4_isText 35 = .ok (.invokevirtual 112, 3) := by decide +kernel
theorem dX4_isText_38 : decode cX4_isText 38 = .ok (.istore_n 1, 1) := by decide +kernel
theorem dX4_isText_39 : decode cX4_isText 39 = .ok (.aload_n 0, 1) := by decide +kernel
theorem dX4_isText_40 : decode cX4_isText 40 = .ok (.dup, 1) := by decide +kernel
theorem dX4_isText_41 : decode cX4_isText 41 = .ok (.getfield 105, 3) := by decide +kernel
theorem dX4_isText_44 : decode cX4_isText 44 = .ok (.iload_n 1, 1) := by decide +kernel
theorem dX4_isText_45 : decode cX4_isText 45 = .ok (.ifCond .eq 7, 3) := by decide +kernel
theorem dX4_isText_48 : decode cX4_isText 48 = .ok (.iconst 1, 1) := by decide +kernel
theorem dX4_isText_49 : decode cX4_isText 49 = .ok (.goto 4, 3) := by decide +kernel
theorem dX4_isText_52 : decode cX4_isText 52 = .ok (.iconst 0, 1) := by decide +kernel
theorem dX4_isText_53 : decode cX4_isText 53 = .ok (.iadd, 1) := by decide +kernel
theorem dX4_isText_54 : decode cX4_isText 54 = .ok (.putfield 105, 3) := by decide +kernel
theorem dX4_isText_57 : decode cX4_isText 57 = .ok (.goto (-40), 3) := by decide +kernel
theorem dX4_isText_60 : decode cX4_isText 60 = .ok (.aload_n 0, 1) := by decide +kernel
theorem dX4_isText_61 : decode cX4_isText 61 = .ok (.aload_n 0, 1) := by decide +kernel
theorem dX4_isText_62 : decode cX4_isText 62 = .ok (.getfield 105, 3) := by decide +kernel
theorem dX4_isText_65 : decode cX4_isText 65 = .ok (.aload_n 0, 1) := by decide +kernel
theorem dX4_isText_66 : decode cX4_isText 66 = .ok (.getfield 102, 3) := by decide +kernel
theorem dX4_isText_69 : decode cX4_isText 69 = .ok (.if_icmp .ge 7, 3) := by decide +kernel
theorem dX4_isText_72 : decode cX4_isText 72 = .ok (.iconst 1, 1) := by decide +kernel
theorem dX4_isText_73 : decode cX4_isText 73 = .ok (.goto 4, 3) := by decide +kernel
theorem dX4_isText_76 : decode cX4_isText 76 = .ok (.iconst 0, 1) := by decide +kernel
theorem dX4_isText_77 : decode cX4_isText 77 = .ok (.putfield 108, 3) := by decide +kernel
theorem dX4_isText_80 : decode cX4_isText 80 = .ok (.aload_n 0, 1) := by decide +kernel
theorem dX4_isText_81 : decode cX4_isText 81 = .ok (.getfield 105, 3) := by decide +kernel
theorem dX4_isText_84 : decode cX4_isText 84 = .ok (.aload_n 0, 1) := by decide +kernel
theorem dX4_isText_85 : decode cX4_isText 85 = .ok (.getfield 102, 3) := by decide +kernel
theorem dX4_isText_88 : decode cX4_isText 88 = .ok (.if_icmp .ne 7, 3) := by decide +kernel
theorem dX4_isText_91 : decode cX4_isText 91 = .ok (.iconst 1, 1) := by decide +kernel
theorem dX4_isText_92 : decode cX4_isText 92 = .ok (.goto 4, 3) := by decide +kernel
theorem dX4_isText_95 : decode cX4_isText 95 = .ok (.iconst 0, 1) := by decide +kernel
theorem dX4_isText_96 : decode cX4_isText 96 = .ok (.ireturn, 1) := by decide +kernel
set_option maxRecDepth 20000 in
theorem ggX4_firstError_X4_isText : GoodIn wsX4_firstError wsX4_isText := goodIn_r _ [9, 3, 10, 2, 4, 11, 12, 13, 8, 14, 15, 16, 17, 18, 19, 20, 21, 22, 23, 24, 25, 26, 27, 28, 29, 30, 31, 32, 33, 34, 35, 36, 37, 38, 39, 40, 41, 42, 43, 44, 45, 46, 47] (by decide +kernel) (by decide +kernel)
set_option maxRecDepth 20000 in
theorem gX4_firstError_X4_isText : GoodIn wsX4_firstError (wsV RX4 132 RX4 yX4_isText wsX4_isText) := goodIn_app (goodIn_of _ (by decide +kernel)) ggX4_firstError_X4_isText
theorem dX4_firstError_0 : decode cX4_firstError 0 = .ok (.aload_n 0, 1) := by decide +kernel
theorem dX4_firstError_1 : decode cX4_firstError 1 = .ok (.iconst 0, 1) := by decide +kernel
theorem dX4_firstError_2 : decode cX4_firstError 2 = .ok (.putfield 25, 3) := by decide +kernel
theorem dX4_firstError_5 : decode cX4_firstError 5 = .ok (.aload_n 0, 1) := by decide +kernel
theorem dX4_firstError_6 : decode cX4_firstError 6 = .ok (.invokevirtual 132, 3) := by decide +kernel
theorem dX4_firstError_9 : decode cX4_firstError 9 = .ok (.istore_n 1, 1) := by decide +kernel
theorem dX4_firstError_10 : decode cX4_firstError 10 = .ok (.iload_n 1, 1) := by decide +kernel
theorem dX4_firstError_11 : decode cX4_firstError 11 = .ok (.ifCond .ne 17, 3) := by decide +kernel
theorem dX4_firstError_14 : decode cX4_firstError 14 = .ok (.aload_n 0, 1) := by decide +kernel
theorem dX4_firstError_15 : decode cX4_firstError 15 = .ok (.getfield 108, 3) := by decide +kernel
theorem dX4_firstError_18 : decode cX4_firstError 18 = .ok (.ifCond .eq 10, 3) := by decide +kernel
theorem dX4_firstError_21 : decode cX4_firstError 21 = .ok (.aload_n 0, 1) := by decide +kernel
theorem dX4_firstError_22 : decode cX4_firstError 22 = .ok (.getfield 105, 3) := by decide +kernel
theorem dX4_firstError_25 : decode cX4_firstError 25 = .ok (.goto 7, 3) := by decide +kernel
theorem dX4_firstError_28 : decode cX4_firstError 28 = .ok (.aload_n 0, 1) := by decide +kernel
theorem dX4_firstError_29 : decode cX4_firstError 29 = .ok (.getfield 102, 3) := by decide +kernel
theorem dX4_firstError_32 : decode cX4_firstError 32 = .ok (.ireturn, 1) := by decide +kernel
set_option maxRecDepth 20000 in
theorem ggX4_writeAll_X4_isText : GoodIn wsX4_writeAll wsX4_isText := goodIn_r _ [10, 11, 3, 12, 2, 13, 14, 15, 9, 16, 17, 5, 18, 19, 20, 21, 22, 23, 24, 25, 26, 27, 28, 29, 30, 31, 32, 33, 34, 35, 36, 86, 87, 88, 89, 90, 91, 92, 93, 94, 95, 96, 97] (by decide +kernel) (by decide +kernel)
set_option maxRecDepth 20000 in
theorem gX4_writeAll_X4_isText : GoodIn wsX4_writeAll (wsV RX4 132 RX4 yX4_isText wsX4_isText) := goodIn_app (goodIn_of _ (by decide +kernel)) ggX4_writeAll_X4_isText
set_option maxRecDepth 20000 in
theorem ggX4_writeAll_X4_fails : GoodIn wsX4_writeAll wsX4_fails := goodIn_r _ [40, 1, 86, 87, 88, 89, 90, 91, 92, 93, 94, 95, 96, 97] (by decide +kernel) (by decide +kernel)
set_option maxRecDepth 20000 in
theorem gX4_writeAll_X4_fails : GoodIn wsX4_writeAll (wsV RX4 40 RX4 yX4_fails wsX4_fails) := goodIn_app (goodIn_of _ (by decide +kernel)) ggX4_writeAll_X4_fails
set_option maxRecDepth 20000 in
theorem ggX4_writeAll_X4_saves : GoodIn wsX4_writeAll wsX4_saves := goodIn_r _ [44, 45, 46, 4, 47, 48, 9, 49, 86, 87, 88, 89, 90, 91, 92, 93, 94, 95, 96, 97] (by decide +kernel) (by decide +kernel)
set_option maxRecDepth 20000 in
theorem gX4_writeAll_X4_saves : GoodIn wsX4_writeAll (wsV RX4 92 RX4 yX4_saves wsX4_saves) := goodIn_app (goodIn_of _ (by decide +kernel)) ggX4_writeAll_X4_saves
set_option maxRecDepth 20000 in
theorem ggX4_writeAll_X4_writes : GoodIn wsX4_writeAll wsX4_writes := goodIn_r _ [52, 53, 54, 9, 55, 56, 57, 58, 59, 60, 61, 62, 63, 64, 65, 66, 67, 68, 69, 70, 71, 72, 73, 74, 75, 76, 77, 78, 79, 80, 81, 82, 83, 84, 85] (by decide +kernel) (by decide +kernel)
set_option maxRecDepth 20000 in
theorem gX4_writeAll_X4_writes : GoodIn wsX4_writeAll (va_wsS RX4 82 yX4_writes wsX4_writes) := goodIn_app (goodIn_of _ (by decide +kernel)) ggX4_writeAll_X4_writes
theorem dX4_writeAll_0 : decode cX4_writeAll 0 = .ok (.aload_n 0, 1) := by decide +kernel
theorem dX4_writeAll_1 : decode cX4_writeAll 1 = .ok (.iconst 0, 1) := by decide +kernel
theorem dX4_writeAll_2 : decode cX4_writeAll 2 = .ok (.putfield 25, 3) := by decide +kernel
theorem dX4_writeAll_5 : decode cX4_writeAll 5 = .ok (.aload_n 0, 1) := by decide +kernel
theorem dX4_writeAll_6 : decode cX4_writeAll 6 = .ok (.invokevirtual 132, 3) := by decide +kernel
theorem dX4_writeAll_9 : decode cX4_writeAll 9 = .ok (.ifCond .ne 9, 3) := by decide +kernel
theorem dX4_writeAll_12 : decode cX4_writeAll 12 = .ok (.aload_n 0, 1) := by decide +kernel
theorem dX4_writeAll_13 : decode cX4_writeAll 13 = .ok (.iconst 1, 1) := by decide +kernel
theorem dX4_writeAll_14 : decode cX4_writeAll 14 = .ok (.invokevirtual 40, 3) := by decide +kernel
theorem dX4_writeAll_17 : decode cX4_writeAll 17 = .ok (.ireturn, 1) := by decide +kernel
theorem dX4_writeAll_18 : decode cX4_writeAll 18 = .ok (.aload_n 0, 1) := by decide +kernel
theorem dX4_writeAll_19 : decode cX4_writeAll 19 = .ok (.invokevirtual 92, 3) := by decide +kernel
theorem dX4_writeAll_22 : decode cX4_writeAll 22 = .ok (.aload_n 0, 1) := by decide +kernel
theorem dX4_writeAll_23 : decode cX4_writeAll 23 = .ok (.iconst 0, 1) := by decide +kernel
theorem dX4_writeAll_24 : decode cX4_writeAll 24 = .ok (.putfield 102, 3) := by decide +kernel
theorem dX4_writeAll_27 : decode cX4_writeAll 27 = .ok (.iconst 0, 1) := by decide +kernel
theorem dX4_writeAll_28 : decode cX4_writeAll 28 = .ok (.istore_n 1, 1) := by decide +kernel
theorem dX4_writeAll_29 : decode cX4_writeAll 29 = .ok (.iload_n 1, 1) := by decide +kernel
theorem dX4_writeAll_30 : decode cX4_writeAll 30 = .ok (.aload_n 0, 1) := by decide +kernel
theorem dX4_writeAll_31 : decode cX4_writeAll 31 = .ok (.getfield 126, 3) := by decide +kernel
theorem dX4_writeAll_34 : decode cX4_writeAll 34 = .ok (.if_icmp .ge 38, 3) := by decide +kernel
theorem dX4_writeAll_37 : decode cX4_writeAll 37 = .ok (.aload_n 0, 1) := by decide +kernel
theorem dX4_writeAll_38 : decode cX4_writeAll 38 = .ok (.getfield 7, 3) := by decide +kernel
theorem dX4_writeAll_41 : decode cX4_writeAll 41 = .ok (.aload_n 0, 1) := by decide +kernel
theorem dX4_writeAll_42 : decode cX4_writeAll 42 = .ok (.getfield 22, 3) := by decide +kernel
theorem dX4_writeAll_45 : decode cX4_writeAll 45 = .ok (.iconst 2, 1) := by decide +kernel
theorem dX4_writeAll_46 : decode cX4_writeAll 46 = .ok (.iload_n 1, 1) := by decide +kernel
theorem dX4_writeAll_47 : decode cX4_writeAll 47 = .ok (.imul, 1) := by decide +kernel
theorem dX4_writeAll_48 : decode cX4_writeAll 48 = .ok (.iaload, 1) := by decide +kernel
theorem dX4_writeAll_49 : decode cX4_writeAll 49 = .ok (.aload_n 0, 1) := by decide +kernel
theorem dX4_writeAll_50 : decode cX4_writeAll 50 = .ok (.getfield 22, 3) := by decide +kernel
theorem dX4_writeAll_53 : decode cX4_writeAll 53 = .ok (.iconst 2, 1) := by decide +kernel
theorem dX4_writeAll_54 : decode cX4_writeAll 54 = .ok (.iload_n 1, 1) := by decide +kernel
theorem dX4_writeAll_55 : decode cX4_writeAll 55 = .ok (.imul, 1) := by decide +kernel
theorem dX4_writeAll_56 : decode cX4_writeAll 56 = .ok (.iconst 1, 1) := by decide +kernel
theorem dX4_writeAll_57 : decode cX4_writeAll 57 = .ok (.iadd, 1) := by decide +kernel
theorem dX4_writeAll_58 : decode cX4_writeAll 58 = .ok (.iaload, 1) := by decide +kernel
theorem dX4_writeAll_59 : decode cX4_writeAll 59 = .ok (.invokestatic 82, 3) := by decide +kernel
theorem dX4_writeAll_62 : decode cX4_writeAll 62 = .ok (.iconst (-1), 1) := by decide +kernel
theorem dX4_writeAll_63 : decode cX4_writeAll 63 = .ok (.if_icmp .eq 9, 3) := by decide +kernel
theorem dX4_writeAll_66 : decode cX4_writeAll 66 = .ok (.iinc 1 1, 3) := by decide +kernel
theorem dX4_writeAll_69 : decode cX4_writeAll 69 = .ok (.goto (-40), 3) := by decide +kernel
theorem dX4_writeAll_72 : decode cX4_writeAll 72 = .ok (.iload_n 1, 1) := by decide +kernel
theorem dX4_writeAll_73 : decode cX4_writeAll 73 = .ok (.ireturn, 1) := by decide +kernel
set_option maxRecDepth 20000 in
theorem ggX4_read_X4_isWord : GoodIn wsX4_read wsX4_isWord := goodIn_r _ [6, 7, 8, 5, 9] (by decide +kernel) (by decide +kernel)
set_option maxRecDepth 20000 in
theorem gX4_read_X4_isWord : GoodIn wsX4_read (va_wsS RX4 85 yX4_isWord wsX4_isWord) := goodIn_app (goodIn_of _ (by decide +kernel)) ggX4_read_X4_isWord
set_option maxRecDepth 20000 in
theorem ggX4_read_X4_reads : GoodIn wsX4_read wsX4_reads := goodIn_r _ [12] (by decide +kernel) (by decide +kernel)
set_option maxRecDepth 20000 in
theorem gX4_read_X4_reads : GoodIn wsX4_read (va_wsS RX4 79 yX4_reads wsX4_reads) := goodIn_app (goodIn_of _ (by decide +kernel)) ggX4_read_X4_reads
set_option maxRecDepth 20000 in
theorem ggX4_read_X4_fails : GoodIn wsX4_read wsX4_fails := goodIn_r _ [16, 1, 17, 18, 19, 20, 21, 22, 23, 24, 25, 26, 27, 28] (by decide +kernel) (by decide +kernel)
set_option maxRecDepth 20000 in
theorem gX4_read_X4_fails : GoodIn wsX4_read (wsV RX4 40 RX4 yX4_fails wsX4_fails) := goodIn_app (goodIn_of _ (by decide +kernel)) ggX4_read_X4_fails
theorem dX4_read_0 : decode cX4_read 0 = .ok (.aload_n 0, 1) := by decide +kernel
theorem dX4_read_1 : decode cX4_read 1 = .ok (.iconst 0, 1) := by decide +kernel
theorem dX4_read_2 : decode cX4_read 2 = .ok (.putfield 25, 3) := by decide +kernel
theorem dX4_read_5 : decode cX4_read 5 = .ok (.iload_n 1, 1) := by decide +kernel
theorem dX4_read_6 : decode cX4_read 6 = .ok (.invokestatic 85, 3) := by decide +kernel
theorem dX4_read_9 : decode cX4_read 9 = .ok (.ifCond .eq 14, 3) := by decide +kernel
theorem dX4_read_12 : decode cX4_read 12 = .ok (.aload_n 0, 1) := by decide +kernel
theorem dX4_read_13 : decode cX4_read 13 = .ok (.getfield 7, 3) := by decide +kernel
theorem dX4_read_16 : decode cX4_read 16 = .ok (.iload_n 1, 1) := by decide +kernel
theorem dX4_read_17 : decode cX4_read 17 = .ok (.invokestatic 79, 3) := by decide +kernel
theorem dX4_read_20 : decode cX4_read 20 = .ok (.goto 8, 3) := by decide +kernel
theorem dX4_read_23 : decode cX4_read 23 = .ok (.aload_n 0, 1) := by decide +kernel
theorem dX4_read_24 : decode cX4_read 24 = .ok (.iconst 1, 1) := by decide +kernel
theorem dX4_read_25 : decode cX4_read 25 = .ok (.invokevirtual 40, 3) := by decide +kernel
theorem dX4_read_28 : decode cX4_read 28 = .ok (.ireturn, 1) := by decide +kernel
set_option maxRecDepth 20000 in
theorem ggX4_ofWord_X4_isHot : GoodIn wsX4_ofWord wsX4_isHot := goodIn_r _ [5] (by decide +kernel) (by decide +kernel)
set_option maxRecDepth 20000 in
theorem gX4_ofWord_X4_isHot : GoodIn wsX4_ofWord (va_wsS RX4 69 yX4_isHot wsX4_isHot) := goodIn_app (goodIn_of _ (by decide +kernel)) ggX4_ofWord_X4_isHot
theorem dX4_ofWord_0 : decode cX4_ofWord 0 = .ok (.iload_n 2, 1) := by decide +kernel
theorem dX4_ofWord_1 : decode cX4_ofWord 1 = .ok (.iconst 4, 1) := by decide +kernel
theorem dX4_ofWord_2 : decode cX4_ofWord 2 = .ok (.if_icmp .ge 21, 3) := by decide +kernel
theorem dX4_ofWord_5 : decode cX4_ofWord 5 = .ok (.aload_n 0, 1) := by decide +kernel
theorem dX4_ofWord_6 : decode cX4_ofWord 6 = .ok (.getfield 7, 3) := by decide +kernel
theorem dX4_ofWord_9 : decode cX4_ofWord 9 = .ok (.sipush 259, 3) := by decide +kernel
theorem dX4_ofWord_12 : decode cX4_ofWord 12 = .ok (.bipush 16, 2) := by decide +kernel
theorem dX4_ofWord_14 : decode cX4_ofWord 14 = .ok (.iload_n 2, 1) := by decide +kernel
theorem dX4_ofWord_15 : decode cX4_ofWord 15 = .ok (.imul, 1) := by decide +kernel
theorem dX4_ofWord_16 : decode cX4_ofWord 16 = .ok (.iadd, 1) := by decide +kernel
theorem dX4_ofWord_17 : decode cX4_ofWord 17 = .ok (.iload_n 1, 1) := by decide +kernel
theorem dX4_ofWord_18 : decode cX4_ofWord 18 = .ok (.iadd, 1) := by decide +kernel
theorem dX4_ofWord_19 : decode cX4_ofWord 19 = .ok (.iaload, 1) := by decide +kernel
theorem dX4_ofWord_20 : decode cX4_ofWord 20 = .ok (.goto 19, 3) := by decide +kernel
theorem dX4_ofWord_23 : decode cX4_ofWord 23 = .ok (.aload_n 0, 1) := by decide +kernel
theorem dX4_ofWord_24 : decode cX4_ofWord 24 = .ok (.getfield 7, 3) := by decide +kernel
theorem dX4_ofWord_27 : decode cX4_ofWord 27 = .ok (.iload_n 1, 1) := by decide +kernel
theorem dX4_ofWord_28 : decode cX4_ofWord 28 = .ok (.invokestatic 69, 3) := by decide +kernel
theorem dX4_ofWord_31 : decode cX4_ofWord 31 = .ok (.ifCond .eq 7, 3) := by decide +kernel
theorem dX4_ofWord_34 : decode cX4_ofWord 34 = .ok (.iconst 1, 1) := by decide +kernel
theorem dX4_ofWord_35 : decode cX4_ofWord 35 = .ok (.goto 4, 3) := by decide +kernel
theorem dX4_ofWord_38 : decode cX4_ofWord 38 = .ok (.iconst 0, 1) := by decide +kernel
theorem dX4_ofWord_39 : decode cX4_ofWord 39 = .ok (.ireturn, 1) := by decide +kernel
set_option maxRecDepth 20000 in
theorem ggX4_word_X4_isWord : GoodIn wsX4_word wsX4_isWord := goodIn_r _ [5, 6, 7, 4, 8] (by decide +kernel) (by decide +kernel)
set_option maxRecDepth 20000 in
theorem gX4_word_X4_isWord : GoodIn wsX4_word (va_wsS RX4 85 yX4_isWord wsX4_isWord) := goodIn_app (goodIn_of _ (by decide +kernel)) ggX4_word_X4_isWord
set_option maxRecDepth 20000 in
theorem ggX4_word_X4_fails : GoodIn wsX4_word wsX4_fails := goodIn_r _ [12, 1, 21, 22, 23, 24, 25, 26, 27, 28, 29, 30, 31, 32] (by decide +kernel) (by decide +kernel)
set_option maxRecDepth 20000 in
theorem gX4_word_X4_fails : GoodIn wsX4_word (wsV RX4 40 RX4 yX4_fails wsX4_fails) := goodIn_app (goodIn_of _ (by decide +kernel)) ggX4_word_X4_fails
set_option maxRecDepth 20000 in
theorem ggX4_word_X4_in : GoodIn wsX4_word wsX4_in := goodIn_r _ [8] (by decide +kernel) (by decide +kernel)
set_option maxRecDepth 20000 in
theorem gX4_word_X4_in : GoodIn wsX4_word (va_wsS RX4 29 yX4_in wsX4_in) := goodIn_app (goodIn_of _ (by decide +kernel)) ggX4_word_X4_in
set_option maxRecDepth 20000 in
theorem ggX4_word_X4_ofWord : GoodIn wsX4_word wsX4_ofWord := goodIn_r _ [16, 17, 18, 19, 4, 20, 21, 22, 23, 24, 25, 26, 27, 28, 29, 30, 31, 32] (by decide +kernel) (by decide +kernel)
set_option maxRecDepth 20000 in
theorem gX4_word_X4_ofWord : GoodIn wsX4_word (wsV RX4 135 RX4 yX4_ofWord wsX4_ofWord) := goodIn_app (goodIn_of _ (by decide +kernel)) ggX4_word_X4_ofWord
theorem dX4_word_0 : decode cX4_word 0 = .ok (.aload_n 0, 1) := by decide +kernel
theorem dX4_word_1 : decode cX4_word 1 = .ok (.iconst 0, 1) := by decide +kernel
theorem dX4_word_2 : decode cX4_word 2 = .ok (.putfield 25, 3) := by decide +kernel
theorem dX4_word_5 : decode cX4_word 5 = .ok (.iload_n 1, 1) := by decide +kernel
theorem dX4_word_6 : decode cX4_word 6 = .ok (.invokestatic 85, 3) := by decide +kernel
theorem dX4_word_9 : decode cX4_word 9 = .ok (.ifCond .ne 9, 3) := by decide +kernel
theorem dX4_word_12 : decode cX4_word 12 = .ok (.aload_n 0, 1) := by decide +kernel
theorem dX4_word_13 : decode cX4_word 13 = .ok (.iconst 1, 1) := by decide +kernel
theorem dX4_word_14 : decode cX4_word 14 = .ok (.invokevirtual 40, 3) := by decide +kernel
theorem dX4_word_17 : decode cX4_word 17 = .ok (.ireturn, 1) := by decide +kernel
theorem dX4_word_18 : decode cX4_word 18 = .ok (.iload_n 2, 1) := by decide +kernel
theorem dX4_word_19 : decode cX4_word 19 = .ok (.iconst 0, 1) := by decide +kernel
theorem dX4_word_20 : decode cX4_word 20 = .ok (.iconst 4, 1) := by decide +kernel
theorem dX4_word_21 : decode cX4_word 21 = .ok (.invokestatic 29, 3) := by decide +kernel
theorem dX4_word_24 : decode cX4_word 24 = .ok (.ifCond .eq 12, 3) := by decide +kernel
theorem dX4_word_27 : decode cX4_word 27 = .ok (.aload_n 0, 1) := by decide +kernel
theorem dX4_word_28 : decode cX4_word 28 = .ok (.iload_n 1, 1) := by decide +kernel
theorem dX4_word_29 : decode cX4_word 29 = .ok (.iload_n 2, 1) := by decide +kernel
theorem dX4_word_30 : decode cX4_word 30 = .ok (.invokevirtual 135, 3) := by decide +kernel
theorem dX4_word_33 : decode cX4_word 33 = .ok (.goto 8, 3) := by decide +kernel
theorem dX4_word_36 : decode cX4_word 36 = .ok (.aload_n 0, 1) := by decide +kernel
theorem dX4_word_37 : decode cX4_word 37 = .ok (.iconst 2, 1) := by decide +kernel
theorem dX4_word_38 : decode cX4_word 38 = .ok (.invokevirtual 40, 3) := by decide +kernel
theorem dX4_word_41 : decode cX4_word 41 = .ok (.ireturn, 1) := by decide +kernel
set_option maxRecDepth 20000 in
theorem ggX4_mostWorn_X4_worn : GoodIn wsX4_mostWorn wsX4_worn := goodIn_r _ [5] (by decide +kernel) (by decide +kernel)
set_option maxRecDepth 20000 in
theorem gX4_mostWorn_X4_worn : GoodIn wsX4_mostWorn (va_wsS RX4 44 yX4_worn wsX4_worn) := goodIn_app (goodIn_of _ (by decide +kernel)) ggX4_mostWorn_X4_worn
theorem dX4_mostWorn_0 : decode cX4_mostWorn 0 = .ok (.iconst 0, 1) := by decide +kernel
theorem dX4_mostWorn_1 : decode cX4_mostWorn 1 = .ok (.istore_n 2, 1) := by decide +kernel
theorem dX4_mostWorn_2 : decode cX4_mostWorn 2 = .ok (.iconst 0, 1) := by decide +kernel
theorem dX4_mostWorn_3 : decode cX4_mostWorn 3 = .ok (.istore_n 3, 1) := by decide +kernel
theorem dX4_mostWorn_4 : decode cX4_mostWorn 4 = .ok (.iload_n 3, 1) := by decide +kernel
theorem dX4_mostWorn_5 : decode cX4_mostWorn 5 = .ok (.bipush 13, 2) := by decide +kernel
theorem dX4_mostWorn_7 : decode cX4_mostWorn 7 = .ok (.if_icmp .ge 36, 3) := by decide +kernel
theorem dX4_mostWorn_10 : decode cX4_mostWorn 10 = .ok (.aload_n 0, 1) := by decide +kernel
theorem dX4_mostWorn_11 : decode cX4_mostWorn 11 = .ok (.getfield 7, 3) := by decide +kernel
theorem dX4_mostWorn_14 : decode cX4_mostWorn 14 = .ok (.iload_n 1, 1) := by decide +kernel
theorem dX4_mostWorn_15 : decode cX4_mostWorn 15 = .ok (.iload_n 3, 1) := by decide +kernel
theorem dX4_mostWorn_16 : decode cX4_mostWorn 16 = .ok (.invokestatic 44, 3) := by decide +kernel
theorem dX4_mostWorn_19 : decode cX4_mostWorn 19 = .ok (.iload_n 2, 1) := by decide +kernel
theorem dX4_mostWorn_20 : decode cX4_mostWorn 20 = .ok (.if_icmp .le 15, 3) := by decide +kernel
theorem dX4_mostWorn_23 : decode cX4_mostWorn 23 = .ok (.aload_n 0, 1) := by decide +kernel
theorem dX4_mostWorn_24 : decode cX4_mostWorn 24 = .ok (.getfield 7, 3) := by decide +kernel
theorem dX4_mostWorn_27 : decode cX4_mostWorn 27 = .ok (.iload_n 1, 1) := by decide +kernel
theorem dX4_mostWorn_28 : decode cX4_mostWorn 28 = .ok (.iload_n 3, 1) := by decide +kernel
theorem dX4_mostWorn_29 : decode cX4_mostWorn 29 = .ok (.invokestatic 44, 3) := by decide +kernel
theorem dX4_mostWorn_32 : decode cX4_mostWorn 32 = .ok (.goto 4, 3) := by decide +kernel
theorem dX4_mostWorn_35 : decode cX4_mostWorn 35 = .ok (.iload_n 2, 1) := by decide +kernel
theorem dX4_mostWorn_36 : decode cX4_mostWorn 36 = .ok (.istore_n 2, 1) := by decide +kernel
theorem dX4_mostWorn_37 : decode cX4_mostWorn 37 = .ok (.iinc 3 1, 3) := by decide +kernel
theorem dX4_mostWorn_40 : decode cX4_mostWorn 40 = .ok (.goto (-36), 3) := by decide +kernel
theorem dX4_mostWorn_43 : decode cX4_mostWorn 43 = .ok (.iload_n 2, 1) := by decide +kernel
theorem dX4_mostWorn_44 : decode cX4_mostWorn 44 = .ok (.ireturn, 1) := by decide +kernel
set_option maxRecDepth 20000 in
theorem ggX4_ofSlot_X4_wordOf : GoodIn wsX4_ofSlot wsX4_wordOf := goodIn_r _ [5] (by decide +kernel) (by decide +kernel)
set_option maxRecDepth 20000 in
theorem gX4_ofSlot_X4_wordOf : GoodIn wsX4_ofSlot (va_wsS RX4 59 yX4_wordOf wsX4_wordOf) := goodIn_app (goodIn_of _ (by decide +kernel)) ggX4_ofSlot_X4_wordOf
set_option maxRecDepth 20000 in
theorem ggX4_ofSlot_X4_allWear : GoodIn wsX4_ofSlot wsX4_allWear := goodIn_r _ [8, 9, 10, 4, 11] (by decide +kernel) (by decide +kernel)
set_option maxRecDepth 20000 in
theorem gX4_ofSlot_X4_allWear : GoodIn wsX4_ofSlot (va_wsS RX4 66 yX4_allWear wsX4_allWear) := goodIn_app (goodIn_of _ (by decide +kernel)) ggX4_ofSlot_X4_allWear
set_option maxRecDepth 20000 in
theorem ggX4_ofSlot_X4_stuck : GoodIn wsX4_ofSlot wsX4_stuck := goodIn_r _ [14, 9, 10, 4, 11] (by decide +kernel) (by decide +kernel)
set_option maxRecDepth 20000 in
theorem gX4_ofSlot_X4_stuck : GoodIn wsX4_ofSlot (va_wsS RX4 55 yX4_stuck wsX4_stuck) := goodIn_app (goodIn_of _ (by decide +kernel)) ggX4_ofSlot_X4_stuck
set_option maxRecDepth 20000 in
theorem ggX4_ofSlot_X4_mostWorn : GoodIn wsX4_ofSlot wsX4_mostWorn := goodIn_r _ [18, 1, 9, 10, 4, 11, 19, 20, 21, 22, 23, 24, 25, 26, 27, 28, 29, 30] (by decide +kernel) (by decide +kernel)
set_option maxRecDepth 20000 in
theorem gX4_ofSlot_X4_mostWorn : GoodIn wsX4_ofSlot (wsV RX4 139 RX4 yX4_mostWorn wsX4_mostWorn) := goodIn_app (goodIn_of _ (by decide +kernel)) ggX4_ofSlot_X4_mostWorn
theorem dX4_ofSlot_0 : decode cX4_ofSlot 0 = .ok (.iload_n 2, 1) := by decide +kernel
theorem dX4_ofSlot_1 : decode cX4_ofSlot 1 = .ok (.tableswitch 90 0 4 #[35, 44, 58, 72, 81], 35) := by decide +kernel
theorem dX4_ofSlot_36 : decode cX4_ofSlot 36 = .ok (.aload_n 0, 1) := by decide +kernel
theorem dX4_ofSlot_37 : decode cX4_ofSlot 37 = .ok (.getfield 7, 3) := by decide +kernel
theorem dX4_ofSlot_40 : decode cX4_ofSlot 40 = .ok (.iload_n 1, 1) := by decide +kernel
theorem dX4_ofSlot_41 : decode cX4_ofSlot 41 = .ok (.invokestatic 59, 3) := by decide +kernel
theorem dX4_ofSlot_44 : decode cX4_ofSlot 44 = .ok (.ireturn, 1) := by decide +kernel
theorem dX4_ofSlot_45 : decode cX4_ofSlot 45 = .ok (.aload_n 0, 1) := by decide +kernel
theorem dX4_ofSlot_46 : decode cX4_ofSlot 46 = .ok (.getfield 7, 3) := by decide +kernel
theorem dX4_ofSlot_49 : decode cX4_ofSlot 49 = .ok (.bipush 7, 2) := by decide +kernel
theorem dX4_ofSlot_51 : decode cX4_ofSlot 51 = .ok (.iload_n 1, 1) := by decide +kernel
theorem dX4_ofSlot_52 : decode cX4_ofSlot 52 = .ok (.iadd, 1) := by decide +kernel
theorem dX4_ofSlot_53 : decode cX4_ofSlot 53 = .ok (.iaload, 1) := by decide +kernel
theorem dX4_ofSlot_54 : decode cX4_ofSlot 54 = .ok (.sipush 4095, 3) := by decide +kernel
theorem dX4_ofSlot_57 : decode cX4_ofSlot 57 = .ok (.iand, 1) := by decide +kernel
theorem dX4_ofSlot_58 : decode cX4_ofSlot 58 = .ok (.ireturn, 1) := by decide +kernel
theorem dX4_ofSlot_59 : decode cX4_ofSlot 59 = .ok (.aload_n 0, 1) := by decide +kernel
theorem dX4_ofSlot_60 : decode cX4_ofSlot 60 = .ok (.getfield 7, 3) := by decide +kernel
theorem dX4_ofSlot_63 : decode cX4_ofSlot 63 = .ok (.bipush 7, 2) := by decide +kernel
theorem dX4_ofSlot_65 : decode cX4_ofSlot 65 = .ok (.iload_n 1, 1) := by decide +kernel
theorem dX4_ofSlot_66 : decode cX4_ofSlot 66 = .ok (.iadd, 1) := by decide +kernel
theorem dX4_ofSlot_67 : decode cX4_ofSlot 67 = .ok (.iaload, 1) := by decide +kernel
theorem dX4_ofSlot_68 : decode cX4_ofSlot 68 = .ok (.sipush 4096, 3) := by decide +kernel
theorem dX4_ofSlot_71 : decode cX4_ofSlot 71 = .ok (.idiv, 1) := by decide +kernel
theorem dX4_ofSlot_72 : decode cX4_ofSlot 72 = .ok (.ireturn, 1) := by decide +kernel
theorem dX4_ofSlot_73 : decode cX4_ofSlot 73 = .ok (.aload_n 0, 1) := by decide +kernel
theorem dX4_ofSlot_74 : decode cX4_ofSlot 74 = .ok (.getfield 7, 3) := by decide +kernel
theorem dX4_ofSlot_77 : decode cX4_ofSlot 77 = .ok (.iload_n 1, 1) := by decide +kernel
theorem dX4_ofSlot_78 : decode cX4_ofSlot 78 = .ok (.invokestatic 66, 3) := by decide +kernel
theorem dX4_ofSlot_81 : decode cX4_ofSlot 81 = .ok (.ireturn, 1) := by decide +kernel
theorem dX4_ofSlot_82 : decode cX4_ofSlot 82 = .ok (.aload_n 0, 1) := by decide +kernel
theorem dX4_ofSlot_83 : decode cX4_ofSlot 83 = .ok (.getfield 7, 3) := by decide +kernel
theorem dX4_ofSlot_86 : decode cX4_ofSlot 86 = .ok (.iload_n 1, 1) := by decide +kernel
theorem dX4_ofSlot_87 : decode cX4_ofSlot 87 = .ok (.invokestatic 55, 3) := by decide +kernel
theorem dX4_ofSlot_90 : decode cX4_ofSlot 90 = .ok (.ireturn, 1) := by decide +kernel
theorem dX4_ofSlot_91 : decode cX4_ofSlot 91 = .ok (.aload_n 0, 1) := by decide +kernel
theorem dX4_ofSlot_92 : decode cX4_ofSlot 92 = .ok (.iload_n 1, 1) := by decide +kernel
theorem dX4_ofSlot_93 : decode cX4_ofSlot 93 = .ok (.invokevirtual 139, 3) := by decide +kernel
theorem dX4_ofSlot_96 : decode cX4_ofSlot 96 = .ok (.ireturn, 1) := by decide +kernel
set_option maxRecDepth 20000 in
theorem ggX4_slot_X4_isSlot : GoodIn wsX4_slot wsX4_isSlot := goodIn_r _ [5, 6, 7, 4, 8] (by decide +kernel) (by decide +kernel)
set_option maxRecDepth 20000 in
theorem gX4_slot_X4_isSlot : GoodIn wsX4_slot (va_wsS RX4 98 yX4_isSlot wsX4_isSlot) := goodIn_app (goodIn_of _ (by decide +kernel)) ggX4_slot_X4_isSlot
set_option maxRecDepth 20000 in
theorem ggX4_slot_X4_fails : GoodIn wsX4_slot wsX4_fails := goodIn_r _ [12, 1, 34, 35, 36, 37, 38, 39, 40, 41, 42, 43, 44, 45] (by decide +kernel) (by decide +kernel)
set_option maxRecDepth 20000 in
theorem gX4_slot_X4_fails : GoodIn wsX4_slot (wsV RX4 40 RX4 yX4_fails wsX4_fails) := goodIn_app (goodIn_of _ (by decide +kernel)) ggX4_slot_X4_fails
set_option maxRecDepth 20000 in
theorem ggX4_slot_X4_in : GoodIn wsX4_slot wsX4_in := goodIn_r _ [8] (by decide +kernel) (by decide +kernel)
set_option maxRecDepth 20000 in
theorem gX4_slot_X4_in : GoodIn wsX4_slot (va_wsS RX4 29 yX4_in wsX4_in) := goodIn_app (goodIn_of _ (by decide +kernel)) ggX4_slot_X4_in
set_option maxRecDepth 20000 in
theorem ggX4_slot_X4_ofSlot : GoodIn wsX4_slot wsX4_ofSlot := goodIn_r _ [16, 17, 18, 19, 4, 20, 21, 22, 23, 24, 25, 26, 27, 28, 29, 30, 31, 32, 33, 34, 35, 36, 37, 38, 39, 40, 41, 42, 43, 44, 45] (by decide +kernel) (by decide +kernel)
set_option maxRecDepth 20000 in
theorem gX4_slot_X4_ofSlot : GoodIn wsX4_slot (wsV RX4 142 RX4 yX4_ofSlot wsX4_ofSlot) := goodIn_app (goodIn_of _ (by decide +kernel)) ggX4_slot_X4_ofSlot
theorem dX4_slot_0 : decode cX4_slot 0 = .ok (.aload_n 0, 1) := by decide +kernel
theorem dX4_slot_1 : decode cX4_slot 1 = .ok (.iconst 0, 1) := by decide +kernel
theorem dX4_slot_2 : decode cX4_slot 2 = .ok (.putfield 25, 3) := by decide +kernel
theorem dX4_slot_5 : decode cX4_slot 5 = .ok (.iload_n 1, 1) := by decide +kernel
theorem dX4_slot_6 : decode cX4_slot 6 = .ok (.invokestatic 98, 3) := by decide +kernel
theorem dX4_slot_9 : decode cX4_slot 9 = .ok (.ifCond .ne 9, 3) := by decide +kernel
theorem dX4_slot_12 : decode cX4_slot 12 = .ok (.aload_n 0, 1) := by decide +kernel
theorem dX4_slot_13 : decode cX4_slot 13 = .ok (.iconst 1, 1) := by decide +kernel
theorem dX4_slot_14 : decode cX4_slot 14 = .ok (.invokevirtual 40, 3) := by decide +kernel
theorem dX4_slot_17 : decode cX4_slot 17 = .ok (.ireturn, 1) := by decide +kernel
theorem dX4_slot_18 : decode cX4_slot 18 = .ok (.iload_n 2, 1) := by decide +kernel
theorem dX4_slot_19 : decode cX4_slot 19 = .ok (.iconst 0, 1) := by decide +kernel
theorem dX4_slot_20 : decode cX4_slot 20 = .ok (.iconst 5, 1) := by decide +kernel
theorem dX4_slot_21 : decode cX4_slot 21 = .ok (.invokestatic 29, 3) := by decide +kernel
theorem dX4_slot_24 : decode cX4_slot 24 = .ok (.ifCond .eq 12, 3) := by decide +kernel
theorem dX4_slot_27 : decode cX4_slot 27 = .ok (.aload_n 0, 1) := by decide +kernel
theorem dX4_slot_28 : decode cX4_slot 28 = .ok (.iload_n 1, 1) := by decide +kernel
theorem dX4_slot_29 : decode cX4_slot 29 = .ok (.iload_n 2, 1) := by decide +kernel
theorem dX4_slot_30 : decode cX4_slot 30 = .ok (.invokevirtual 142, 3) := by decide +kernel
theorem dX4_slot_33 : decode cX4_slot 33 = .ok (.goto 8, 3) := by decide +kernel
theorem dX4_slot_36 : decode cX4_slot 36 = .ok (.aload_n 0, 1) := by decide +kernel
theorem dX4_slot_37 : decode cX4_slot 37 = .ok (.iconst 2, 1) := by decide +kernel
theorem dX4_slot_38 : decode cX4_slot 38 = .ok (.invokevirtual 40, 3) := by decide +kernel
theorem dX4_slot_41 : decode cX4_slot 41 = .ok (.ireturn, 1) := by decide +kernel
set_option maxRecDepth 20000 in
theorem ggX4_wearOf_X4_isSlot : GoodIn wsX4_wearOf wsX4_isSlot := goodIn_r _ [6, 7, 8, 5, 9] (by decide +kernel) (by decide +kernel)
set_option maxRecDepth 20000 in
theorem gX4_wearOf_X4_isSlot : GoodIn wsX4_wearOf (va_wsS RX4 98 yX4_isSlot wsX4_isSlot) := goodIn_app (goodIn_of _ (by decide +kernel)) ggX4_wearOf_X4_isSlot
set_option maxRecDepth 20000 in
theorem ggX4_wearOf_X4_in : GoodIn wsX4_wearOf wsX4_in := goodIn_r _ [9] (by decide +kernel) (by decide +kernel)
set_option maxRecDepth 20000 in
theorem gX4_wearOf_X4_in : GoodIn wsX4_wearOf (va_wsS RX4 29 yX4_in wsX4_in) := goodIn_app (goodIn_of _ (by decide +kernel)) ggX4_wearOf_X4_in
set_option maxRecDepth 20000 in
theorem ggX4_wearOf_X4_worn : GoodIn wsX4_wearOf wsX4_worn := goodIn_r _ [12] (by decide +kernel) (by decide +kernel)
set_option maxRecDepth 20000 in
theorem gX4_wearOf_X4_worn : GoodIn wsX4_wearOf (va_wsS RX4 44 yX4_worn wsX4_worn) := goodIn_app (goodIn_of _ (by decide +kernel)) ggX4_wearOf_X4_worn
set_option maxRecDepth 20000 in
theorem ggX4_wearOf_X4_fails : GoodIn wsX4_wearOf wsX4_fails := goodIn_r _ [16, 1, 17, 18, 19, 20, 21, 22, 23, 24, 25, 26, 27, 28] (by decide +kernel) (by decide +kernel)
set_option maxRecDepth 20000 in
theorem gX4_wearOf_X4_fails : GoodIn wsX4_wearOf (wsV RX4 40 RX4 yX4_fails wsX4_fails) := goodIn_app (goodIn_of _ (by decide +kernel)) ggX4_wearOf_X4_fails
theorem dX4_wearOf_0 : decode cX4_wearOf 0 = .ok (.aload_n 0, 1) := by decide +kernel
theorem dX4_wearOf_1 : decode cX4_wearOf 1 = .ok (.iconst 0, 1) := by decide +kernel
theorem dX4_wearOf_2 : decode cX4_wearOf 2 = .ok (.putfield 25, 3) := by decide +kernel
theorem dX4_wearOf_5 : decode cX4_wearOf 5 = .ok (.iload_n 1, 1) := by decide +kernel
theorem dX4_wearOf_6 : decode cX4_wearOf 6 = .ok (.invokestatic 98, 3) := by decide +kernel
theorem dX4_wearOf_9 : decode cX4_wearOf 9 = .ok (.ifCond .eq 25, 3) := by decide +kernel
theorem dX4_wearOf_12 : decode cX4_wearOf 12 = .ok (.iload_n 2, 1) := by decide +kernel
theorem dX4_wearOf_13 : decode cX4_wearOf 13 = .ok (.iconst 0, 1) := by decide +kernel
theorem dX4_wearOf_14 : decode cX4_wearOf 14 = .ok (.bipush 12, 2) := by decide +kernel
theorem dX4_wearOf_16 : decode cX4_wearOf 16 = .ok (.invokestatic 29, 3) := by decide +kernel
theorem dX4_wearOf_19 : decode cX4_wearOf 19 = .ok (.ifCond .eq 15, 3) := by decide +kernel
theorem dX4_wearOf_22 : decode cX4_wearOf 22 = .ok (.aload_n 0, 1) := by decide +kernel
theorem dX4_wearOf_23 : decode cX4_wearOf 23 = .ok (.getfield 7, 3) := by decide +kernel
theorem dX4_wearOf_26 : decode cX4_wearOf 26 = .ok (.iload_n 1, 1) := by decide +kernel
theorem dX4_wearOf_27 : decode cX4_wearOf 27 = .ok (.iload_n 2, 1) := by decide +kernel
theorem dX4_wearOf_28 : decode cX4_wearOf 28 = .ok (.invokestatic 44, 3) := by decide +kernel
theorem dX4_wearOf_31 : decode cX4_wearOf 31 = .ok (.goto 8, 3) := by decide +kernel
theorem dX4_wearOf_34 : decode cX4_wearOf 34 = .ok (.aload_n 0, 1) := by decide +kernel
theorem dX4_wearOf_35 : decode cX4_wearOf 35 = .ok (.iconst 1, 1) := by decide +kernel
theorem dX4_wearOf_36 : decode cX4_wearOf 36 = .ok (.invokevirtual 40, 3) := by decide +kernel
theorem dX4_wearOf_39 : decode cX4_wearOf 39 = .ok (.ireturn, 1) := by decide +kernel
set_option maxRecDepth 20000 in
theorem ggX4_stuckCells_X4_stuck : GoodIn wsX4_stuckCells wsX4_stuck := goodIn_r _ [5, 6, 7, 4, 8] (by decide +kernel) (by decide +kernel)
set_option maxRecDepth 20000 in
theorem gX4_stuckCells_X4_stuck : GoodIn wsX4_stuckCells (va_wsS RX4 55 yX4_stuck wsX4_stuck) := goodIn_app (goodIn_of _ (by decide +kernel)) ggX4_stuckCells_X4_stuck
set_option maxRecDepth 20000 in
theorem ggX4_stuckCells_X4_ones : GoodIn wsX4_stuckCells wsX4_ones := goodIn_r _ [11] (by decide +kernel) (by decide +kernel)
set_option maxRecDepth 20000 in
theorem gX4_stuckCells_X4_ones : GoodIn wsX4_stuckCells (va_wsS RX4 48 yX4_ones wsX4_ones) := goodIn_app (goodIn_of _ (by decide +kernel)) ggX4_stuckCells_X4_ones
theorem dX4_stuckCells_0 : decode cX4_stuckCells 0 = .ok (.iconst 0, 1) := by decide +kernel
theorem dX4_stuckCells_1 : decode cX4_stuckCells 1 = .ok (.istore_n 1, 1) := by decide +kernel
theorem dX4_stuckCells_2 : decode cX4_stuckCells 2 = .ok (.iconst 0, 1) := by decide +kernel
theorem dX4_stuckCells_3 : decode cX4_stuckCells 3 = .ok (.istore_n 2, 1) := by decide +kernel
theorem dX4_stuckCells_4 : decode cX4_stuckCells 4 = .ok (.iload_n 2, 1) := by decide +kernel
theorem dX4_stuckCells_5 : decode cX4_stuckCells 5 = .ok (.bipush 18, 2) := by decide +kernel
theorem dX4_stuckCells_7 : decode cX4_stuckCells 7 = .ok (.if_icmp .ge 23, 3) := by decide +kernel
theorem dX4_stuckCells_10 : decode cX4_stuckCells 10 = .ok (.iload_n 1, 1) := by decide +kernel
theorem dX4_stuckCells_11 : decode cX4_stuckCells 11 = .ok (.aload_n 0, 1) := by decide +kernel
theorem dX4_stuckCells_12 : decode cX4_stuckCells 12 = .ok (.getfield 7, 3) := by decide +kernel
theorem dX4_stuckCells_15 : decode cX4_stuckCells 15 = .ok (.iload_n 2, 1) := by decide +kernel
theorem dX4_stuckCells_16 : decode cX4_stuckCells 16 = .ok (.invokestatic 55, 3) := by decide +kernel
theorem dX4_stuckCells_19 : decode cX4_stuckCells 19 = .ok (.invokestatic 48, 3) := by decide +kernel
theorem dX4_stuckCells_22 : decode cX4_stuckCells 22 = .ok (.iadd, 1) := by decide +kernel
theorem dX4_stuckCells_23 : decode cX4_stuckCells 23 = .ok (.istore_n 1, 1) := by decide +kernel
theorem dX4_stuckCells_24 : decode cX4_stuckCells 24 = .ok (.iinc 2 1, 3) := by decide +kernel
theorem dX4_stuckCells_27 : decode cX4_stuckCells 27 = .ok (.goto (-23), 3) := by decide +kernel
theorem dX4_stuckCells_30 : decode cX4_stuckCells 30 = .ok (.iload_n 1, 1) := by decide +kernel
theorem dX4_stuckCells_31 : decode cX4_stuckCells 31 = .ok (.ireturn, 1) := by decide +kernel
set_option maxRecDepth 20000 in
theorem ggX4_overWords_X4_ofWord : GoodIn wsX4_overWords wsX4_ofWord := goodIn_r _ [6, 1, 7, 8, 5, 9, 13, 14, 15, 16, 17, 18, 19, 20, 21, 22, 23, 24] (by decide +kernel) (by decide +kernel)
set_option maxRecDepth 20000 in
theorem gX4_overWords_X4_ofWord : GoodIn wsX4_overWords (wsV RX4 135 RX4 yX4_ofWord wsX4_ofWord) := goodIn_app (goodIn_of _ (by decide +kernel)) ggX4_overWords_X4_ofWord
set_option maxRecDepth 20000 in
theorem ggX4_overWords_X4_reads : GoodIn wsX4_overWords wsX4_reads := goodIn_r _ [12] (by decide +kernel) (by decide +kernel)
set_option maxRecDepth 20000 in
theorem gX4_overWords_X4_reads : GoodIn wsX4_overWords (va_wsS RX4 79 yX4_reads wsX4_reads) := goodIn_app (goodIn_of _ (by decide +kernel)) ggX4_overWords_X4_reads
theorem dX4_overWords_0 : decode cX4_overWords 0 = .ok (.iconst 0, 1) := by decide +kernel
theorem dX4_overWords_1 : decode cX4_overWords 1 = .ok (.istore_n 2, 1) := by decide +kernel
theorem dX4_overWords_2 : decode cX4_overWords 2 = .ok (.iconst 0, 1) := by decide +kernel
theorem dX4_overWords_3 : decode cX4_overWords 3 = .ok (.istore_n 3, 1) := by decide +kernel
theorem dX4_overWords_4 : decode cX4_overWords 4 = .ok (.iload_n 3, 1) := by decide +kernel
theorem dX4_overWords_5 : decode cX4_overWords 5 = .ok (.bipush 16, 2) := by decide +kernel
theorem dX4_overWords_7 : decode cX4_overWords 7 = .ok (.if_icmp .ge 33, 3) := by decide +kernel
theorem dX4_overWords_10 : decode cX4_overWords 10 = .ok (.iload_n 2, 1) := by decide +kernel
theorem dX4_overWords_11 : decode cX4_overWords 11 = .ok (.iload_n 1, 1) := by decide +kernel
theorem dX4_overWords_12 : decode cX4_overWords 12 = .ok (.ifCond .eq 12, 3) := by decide +kernel
theorem dX4_overWords_15 : decode cX4_overWords 15 = .ok (.aload_n 0, 1) := by decide +kernel
theorem dX4_overWords_16 : decode cX4_overWords 16 = .ok (.iload_n 3, 1) := by decide +kernel
theorem dX4_overWords_17 : decode cX4_overWords 17 = .ok (.iconst 4, 1) := by decide +kernel
theorem dX4_overWords_18 : decode cX4_overWords 18 = .ok (.invokevirtual 135, 3) := by decide +kernel
theorem dX4_overWords_21 : decode cX4_overWords 21 = .ok (.goto 11, 3) := by decide +kernel
theorem dX4_overWords_24 : decode cX4_overWords 24 = .ok (.aload_n 0, 1) := by decide +kernel
theorem dX4_overWords_25 : decode cX4_overWords 25 = .ok (.getfield 7, 3) := by decide +kernel
theorem dX4_overWords_28 : decode cX4_overWords 28 = .ok (.iload_n 3, 1) := by decide +kernel
theorem dX4_overWords_29 : decode cX4_overWords 29 = .ok (.invokestatic 79, 3) := by decide +kernel
theorem dX4_overWords_32 : decode cX4_overWords 32 = .ok (.iadd, 1) := by decide +kernel
theorem dX4_overWords_33 : decode cX4_overWords 33 = .ok (.istore_n 2, 1) := by decide +kernel
theorem dX4_overWords_34 : decode cX4_overWords 34 = .ok (.iinc 3 1, 3) := by decide +kernel
theorem dX4_overWords_37 : decode cX4_overWords 37 = .ok (.goto (-33), 3) := by decide +kernel
theorem dX4_overWords_40 : decode cX4_overWords 40 = .ok (.iload_n 2, 1) := by decide +kernel
theorem dX4_overWords_41 : decode cX4_overWords 41 = .ok (.ireturn, 1) := by decide +kernel
set_option maxRecDepth 20000 in
theorem ggX4_counted_X4_stuckCells : GoodIn wsX4_counted wsX4_stuckCells := goodIn_r _ [7, 1, 8, 9, 6, 10, 11, 12, 13, 14, 15, 16, 46, 47, 48, 49, 50, 51, 52, 53, 54, 55, 56, 57] (by decide +kernel) (by decide +kernel)
set_option maxRecDepth 20000 in
theorem gX4_counted_X4_stuckCells : GoodIn wsX4_counted (wsV RX4 145 RX4 yX4_stuckCells wsX4_stuckCells) := goodIn_app (goodIn_of _ (by decide +kernel)) ggX4_counted_X4_stuckCells
set_option maxRecDepth 20000 in
theorem ggX4_counted_X4_free : GoodIn wsX4_counted wsX4_free := goodIn_r _ [19, 20, 21, 6, 22, 23, 24, 25, 8, 9, 10, 11, 12, 13, 26, 27, 28, 14, 15, 16, 29, 30, 31] (by decide +kernel) (by decide +kernel)
set_option maxRecDepth 20000 in
theorem gX4_counted_X4_free : GoodIn wsX4_counted (va_wsS RX4 73 yX4_free wsX4_free) := goodIn_app (goodIn_of _ (by decide +kernel)) ggX4_counted_X4_free
set_option maxRecDepth 20000 in
theorem ggX4_counted_X4_overWords : GoodIn wsX4_counted wsX4_overWords := goodIn_r _ [35, 1, 36, 37, 38, 6, 39, 40, 41, 42, 43, 44, 45, 46, 47, 48, 49, 50, 51, 52, 53, 54, 55, 56, 57] (by decide +kernel) (by decide +kernel)
set_option maxRecDepth 20000 in
theorem gX4_counted_X4_overWords : GoodIn wsX4_counted (wsV RX4 149 RX4 yX4_overWords wsX4_overWords) := goodIn_app (goodIn_of _ (by decide +kernel)) ggX4_counted_X4_overWords
theorem dX4_counted_0 : decode cX4_counted 0 = .ok (.iload_n 1, 1) := by decide +kernel
theorem dX4_counted_1 : decode cX4_counted 1 = .ok (.iconst 5, 1) := by decide +kernel
theorem dX4_counted_2 : decode cX4_counted 2 = .ok (.if_icmp .ge 12, 3) := by decide +kernel
theorem dX4_counted_5 : decode cX4_counted 5 = .ok (.aload_n 0, 1) := by decide +kernel
theorem dX4_counted_6 : decode cX4_counted 6 = .ok (.getfield 7, 3) := by decide +kernel
theorem dX4_counted_9 : decode cX4_counted 9 = .ok (.iconst 2, 1) := by decide +kernel
theorem dX4_counted_10 : decode cX4_counted 10 = .ok (.iload_n 1, 1) := by decide +kernel
theorem dX4_counted_11 : decode cX4_counted 11 = .ok (.iadd, 1) := by decide +kernel
theorem dX4_counted_12 : decode cX4_counted 12 = .ok (.iaload, 1) := by decide +kernel
theorem dX4_counted_13 : decode cX4_counted 13 = .ok (.ireturn, 1) := by decide +kernel
theorem dX4_counted_14 : decode cX4_counted 14 = .ok (.iload_n 1, 1) := by decide +kernel
theorem dX4_counted_15 : decode cX4_counted 15 = .ok (.iconst 5, 1) := by decide +kernel
theorem dX4_counted_16 : decode cX4_counted 16 = .ok (.if_icmp .ne 10, 3) := by decide +kernel
theorem dX4_counted_19 : decode cX4_counted 19 = .ok (.aload_n 0, 1) := by decide +kernel
theorem dX4_counted_20 : decode cX4_counted 20 = .ok (.invokevirtual 145, 3) := by decide +kernel
theorem dX4_counted_23 : decode cX4_counted 23 = .ok (.goto 48, 3) := by decide +kernel
theorem dX4_counted_26 : decode cX4_counted 26 = .ok (.iload_n 1, 1) := by decide +kernel
theorem dX4_counted_27 : decode cX4_counted 27 = .ok (.bipush 6, 2) := by decide +kernel
theorem dX4_counted_29 : decode cX4_counted 29 = .ok (.if_icmp .ne 14, 3) := by decide +kernel
theorem dX4_counted_32 : decode cX4_counted 32 = .ok (.aload_n 0, 1) := by decide +kernel
theorem dX4_counted_33 : decode cX4_counted 33 = .ok (.getfield 7, 3) := by decide +kernel
theorem dX4_counted_36 : decode cX4_counted 36 = .ok (.iconst (-1), 1) := by decide +kernel
theorem dX4_counted_37 : decode cX4_counted 37 = .ok (.invokestatic 73, 3) := by decide +kernel
theorem dX4_counted_40 : decode cX4_counted 40 = .ok (.goto 31, 3) := by decide +kernel
theorem dX4_counted_43 : decode cX4_counted 43 = .ok (.iload_n 1, 1) := by decide +kernel
theorem dX4_counted_44 : decode cX4_counted 44 = .ok (.bipush 9, 2) := by decide +kernel
theorem dX4_counted_46 : decode cX4_counted 46 = .ok (.if_icmp .ne 10, 3) := by decide +kernel
theorem dX4_counted_49 : decode cX4_counted 49 = .ok (.aload_n 0, 1) := by decide +kernel
theorem dX4_counted_50 : decode cX4_counted 50 = .ok (.getfield 33, 3) := by decide +kernel
theorem dX4_counted_53 : decode cX4_counted 53 = .ok (.goto 18, 3) := by decide +kernel
theorem dX4_counted_56 : decode cX4_counted 56 = .ok (.aload_n 0, 1) := by decide +kernel
theorem dX4_counted_57 : decode cX4_counted 57 = .ok (.iload_n 1, 1) := by decide +kernel
theorem dX4_counted_58 : decode cX4_counted 58 = .ok (.bipush 7, 2) := by decide +kernel
theorem dX4_counted_60 : decode cX4_counted 60 = .ok (.if_icmp .ne 7, 3) := by decide +kernel
theorem dX4_counted_63 : decode cX4_counted 63 = .ok (.iconst 1, 1) := by decide +kernel
theorem dX4_counted_64 : decode cX4_counted 64 = .ok (.goto 4, 3) := by decide +kernel
theorem dX4_counted_67 : decode cX4_counted 67 = .ok (.iconst 0, 1) := by decide +kernel
theorem dX4_counted_68 : decode cX4_counted 68 = .ok (.invokevirtual 149, 3) := by decide +kernel
theorem dX4_counted_71 : decode cX4_counted 71 = .ok (.ireturn, 1) := by decide +kernel
set_option maxRecDepth 20000 in
theorem ggX4_count_X4_in : GoodIn wsX4_count wsX4_in := goodIn_r _ [5] (by decide +kernel) (by decide +kernel)
set_option maxRecDepth 20000 in
theorem gX4_count_X4_in : GoodIn wsX4_count (va_wsS RX4 29 yX4_in wsX4_in) := goodIn_app (goodIn_of _ (by decide +kernel)) ggX4_count_X4_in
set_option maxRecDepth 20000 in
theorem ggX4_count_X4_counted : GoodIn wsX4_count wsX4_counted := goodIn_r _ [9, 10, 11, 12, 13, 14, 4, 15, 16, 17, 18, 19, 20, 21, 22, 23, 24, 25, 26, 27, 28, 29, 30, 31, 32, 33, 34, 35, 36, 37, 38, 39, 40, 41, 42, 43, 44, 45, 46, 47, 48, 49, 50, 51, 52, 53, 58, 59, 60, 61, 62, 63, 64, 65, 66, 67, 68, 69] (by decide +kernel) (by decide +kernel)
set_option maxRecDepth 20000 in
theorem gX4_count_X4_counted : GoodIn wsX4_count (wsV RX4 153 RX4 yX4_counted wsX4_counted) := goodIn_app (goodIn_of _ (by decide +kernel)) ggX4_count_X4_counted
set_option maxRecDepth 20000 in
theorem ggX4_count_X4_fails : GoodIn wsX4_count wsX4_fails := goodIn_r _ [57, 1, 58, 59, 60, 61, 62, 63, 64, 65, 66, 67, 68, 69] (by decide +kernel) (by decide +kernel)
set_option maxRecDepth 20000 in
theorem gX4_count_X4_fails : GoodIn wsX4_count (wsV RX4 40 RX4 yX4_fails wsX4_fails) := goodIn_app (goodIn_of _ (by decide +kernel)) ggX4_count_X4_fails
theorem dX4_count_0 : decode cX4_count 0 = .ok (.aload_n 0, 1) := by decide +kernel
theorem dX4_count_1 : decode cX4_count 1 = .ok (.iconst 0, 1) := by decide +kernel
theorem dX4_count_2 : decode cX4_count 2 = .ok (.putfield 25, 3) := by decide +kernel
theorem dX4_count_5 : decode cX4_count 5 = .ok (.iload_n 1, 1) := by decide +kernel
theorem dX4_count_6 : decode cX4_count 6 = .ok (.iconst 0, 1) := by decide +kernel
theorem dX4_count_7 : decode cX4_count 7 = .ok (.bipush 9, 2) := by decide +kernel
theorem dX4_count_9 : decode cX4_count 9 = .ok (.invokestatic 29, 3) := by decide +kernel
theorem dX4_count_12 : decode cX4_count 12 = .ok (.ifCond .eq 11, 3) := by decide +kernel
theorem dX4_count_15 : decode cX4_count 15 = .ok (.aload_n 0, 1) := by decide +kernel
theorem dX4_count_16 : decode cX4_count 16 = .ok (.iload_n 1, 1) := by decide +kernel
theorem dX4_count_17 : decode cX4_count 17 = .ok (.invokevirtual 153, 3) := by decide +kernel
theorem dX4_count_20 : decode cX4_count 20 = .ok (.goto 8, 3) := by decide +kernel
theorem dX4_count_23 : decode cX4_count 23 = .ok (.aload_n 0, 1) := by decide +kernel
theorem dX4_count_24 : decode cX4_count 24 = .ok (.iconst 1, 1) := by decide +kernel
theorem dX4_count_25 : decode cX4_count 25 = .ok (.invokevirtual 40, 3) := by decide +kernel
theorem dX4_count_28 : decode cX4_count 28 = .ok (.ireturn, 1) := by decide +kernel
set_option maxRecDepth 20000 in
theorem ggX4_setting_X4_in : GoodIn wsX4_setting wsX4_in := goodIn_r _ [6] (by decide +kernel) (by decide +kernel)
set_option maxRecDepth 20000 in
theorem gX4_setting_X4_in : GoodIn wsX4_setting (va_wsS RX4 29 yX4_in wsX4_in) := goodIn_app (goodIn_of _ (by decide +kernel)) ggX4_setting_X4_in
set_option maxRecDepth 20000 in
theorem ggX4_setting_X4_fails : GoodIn wsX4_setting wsX4_fails := goodIn_r _ [10, 1, 11, 12, 13, 14, 15, 16, 17, 18, 19, 20, 21, 22] (by decide +kernel) (by decide +kernel)
set_option maxRecDepth 20000 in
theorem gX4_setting_X4_fails : GoodIn wsX4_setting (wsV RX4 40 RX4 yX4_fails wsX4_fails) := goodIn_app (goodIn_of _ (by decide +kernel)) ggX4_setting_X4_fails
theorem dX4_setting_0 : decode cX4_setting 0 = .ok (.aload_n 0, 1) := by decide +kernel
theorem dX4_setting_1 : decode cX4_setting 1 = .ok (.iconst 0, 1) := by decide +kernel
theorem dX4_setting_2 : decode cX4_setting 2 = .ok (.putfield 25, 3) := by decide +kernel
theorem dX4_setting_5 : decode cX4_setting 5 = .ok (.iload_n 1, 1) := by decide +kernel
theorem dX4_setting_6 : decode cX4_setting 6 = .ok (.iconst 0, 1) := by decide +kernel
theorem dX4_setting_7 : decode cX4_setting 7 = .ok (.iconst 1, 1) := by decide +kernel
theorem dX4_setting_8 : decode cX4_setting 8 = .ok (.invokestatic 29, 3) := by decide +kernel
theorem dX4_setting_11 : decode cX4_setting 11 = .ok (.ifCond .eq 12, 3) := by decide +kernel
theorem dX4_setting_14 : decode cX4_setting 14 = .ok (.aload_n 0, 1) := by decide +kernel
theorem dX4_setting_15 : decode cX4_setting 15 = .ok (.getfield 7, 3) := by decide +kernel
theorem dX4_setting_18 : decode cX4_setting 18 = .ok (.iload_n 1, 1) := by decide +kernel
theorem dX4_setting_19 : decode cX4_setting 19 = .ok (.iaload, 1) := by decide +kernel
theorem dX4_setting_20 : decode cX4_setting 20 = .ok (.goto 8, 3) := by decide +kernel
theorem dX4_setting_23 : decode cX4_setting 23 = .ok (.aload_n 0, 1) := by decide +kernel
theorem dX4_setting_24 : decode cX4_setting 24 = .ok (.iconst 1, 1) := by decide +kernel
theorem dX4_setting_25 : decode cX4_setting 25 = .ok (.invokevirtual 40, 3) := by decide +kernel
theorem dX4_setting_28 : decode cX4_setting 28 = .ok (.ireturn, 1) := by decide +kernel
set_option maxRecDepth 20000 in
theorem ggX4_cost_X4_isSlot : GoodIn wsX4_cost wsX4_isSlot := goodIn_r _ [6, 7, 8, 5, 9] (by decide +kernel) (by decide +kernel)
set_option maxRecDepth 20000 in
theorem gX4_cost_X4_isSlot : GoodIn wsX4_cost (va_wsS RX4 98 yX4_isSlot wsX4_isSlot) := goodIn_app (goodIn_of _ (by decide +kernel)) ggX4_cost_X4_isSlot
set_option maxRecDepth 20000 in
theorem ggX4_cost_X4_fails : GoodIn wsX4_cost wsX4_fails := goodIn_r _ [13, 1, 32, 33, 34, 35, 36, 37, 38, 39, 40, 41, 42, 43] (by decide +kernel) (by decide +kernel)
set_option maxRecDepth 20000 in
theorem gX4_cost_X4_fails : GoodIn wsX4_cost (wsV RX4 40 RX4 yX4_fails wsX4_fails) := goodIn_app (goodIn_of _ (by decide +kernel)) ggX4_cost_X4_fails
set_option maxRecDepth 20000 in
theorem ggX4_cost_X4_isNumber : GoodIn wsX4_cost wsX4_isNumber := goodIn_r _ [16, 7, 8, 5, 9] (by decide +kernel) (by decide +kernel)
set_option maxRecDepth 20000 in
theorem gX4_cost_X4_isNumber : GoodIn wsX4_cost (va_wsS RX4 89 yX4_isNumber wsX4_isNumber) := goodIn_app (goodIn_of _ (by decide +kernel)) ggX4_cost_X4_isNumber
set_option maxRecDepth 20000 in
theorem ggX4_cost_X4_stuck : GoodIn wsX4_cost wsX4_stuck := goodIn_r _ [19, 20, 21, 5, 22] (by decide +kernel) (by decide +kernel)
set_option maxRecDepth 20000 in
theorem gX4_cost_X4_stuck : GoodIn wsX4_cost (va_wsS RX4 55 yX4_stuck wsX4_stuck) := goodIn_app (goodIn_of _ (by decide +kernel)) ggX4_cost_X4_stuck
set_option maxRecDepth 20000 in
theorem ggX4_cost_X4_costs : GoodIn wsX4_cost wsX4_costs := goodIn_r _ [25, 26, 27, 5, 28, 29, 30, 31] (by decide +kernel) (by decide +kernel)
set_option maxRecDepth 20000 in
theorem gX4_cost_X4_costs : GoodIn wsX4_cost (va_wsS RX4 156 yX4_costs wsX4_costs) := goodIn_app (goodIn_of _ (by decide +kernel)) ggX4_cost_X4_costs
theorem dX4_cost_0 : decode cX4_cost 0 = .ok (.aload_n 0, 1) := by decide +kernel
theorem dX4_cost_1 : decode cX4_cost 1 = .ok (.iconst 0, 1) := by decide +kernel
theorem dX4_cost_2 : decode cX4_cost 2 = .ok (.putfield 25, 3) := by decide +kernel
theorem dX4_cost_5 : decode cX4_cost 5 = .ok (.iload_n 1, 1) := by decide +kernel
theorem dX4_cost_6 : decode cX4_cost 6 = .ok (.invokestatic 98, 3) := by decide +kernel
theorem dX4_cost_9 : decode cX4_cost 9 = .ok (.ifCond .ne 9, 3) := by decide +kernel
theorem dX4_cost_12 : decode cX4_cost 12 = .ok (.aload_n 0, 1) := by decide +kernel
theorem dX4_cost_13 : decode cX4_cost 13 = .ok (.iconst 1, 1) := by decide +kernel
theorem dX4_cost_14 : decode cX4_cost 14 = .ok (.invokevirtual 40, 3) := by decide +kernel
theorem dX4_cost_17 : decode cX4_cost 17 = .ok (.ireturn, 1) := by decide +kernel
theorem dX4_cost_18 : decode cX4_cost 18 = .ok (.iload_n 2, 1) := by decide +kernel
theorem dX4_cost_19 : decode cX4_cost 19 = .ok (.invokestatic 89, 3) := by decide +kernel
theorem dX4_cost_22 : decode cX4_cost 22 = .ok (.ifCond .eq 23, 3) := by decide +kernel
theorem dX4_cost_25 : decode cX4_cost 25 = .ok (.aload_n 0, 1) := by decide +kernel
theorem dX4_cost_26 : decode cX4_cost 26 = .ok (.getfield 7, 3) := by decide +kernel
theorem dX4_cost_29 : decode cX4_cost 29 = .ok (.iload_n 1, 1) := by decide +kernel
theorem dX4_cost_30 : decode cX4_cost 30 = .ok (.iload_n 2, 1) := by decide +kernel
theorem dX4_cost_31 : decode cX4_cost 31 = .ok (.aload_n 0, 1) := by decide +kernel
theorem dX4_cost_32 : decode cX4_cost 32 = .ok (.getfield 7, 3) := by decide +kernel
theorem dX4_cost_35 : decode cX4_cost 35 = .ok (.iload_n 1, 1) := by decide +kernel
theorem dX4_cost_36 : decode cX4_cost 36 = .ok (.invokestatic 55, 3) := by decide +kernel
theorem dX4_cost_39 : decode cX4_cost 39 = .ok (.invokestatic 156, 3) := by decide +kernel
theorem dX4_cost_42 : decode cX4_cost 42 = .ok (.goto 8, 3) := by decide +kernel
theorem dX4_cost_45 : decode cX4_cost 45 = .ok (.aload_n 0, 1) := by decide +kernel
theorem dX4_cost_46 : decode cX4_cost 46 = .ok (.iconst 2, 1) := by decide +kernel
theorem dX4_cost_47 : decode cX4_cost 47 = .ok (.invokevirtual 40, 3) := by decide +kernel
theorem dX4_cost_50 : decode cX4_cost 50 = .ok (.ireturn, 1) := by decide +kernel
set_option maxRecDepth 20000 in
theorem ggX4_ifWritten_X4_isWord : GoodIn wsX4_ifWritten wsX4_isWord := goodIn_r _ [6, 7, 8, 5, 9] (by decide +kernel) (by decide +kernel)
set_option maxRecDepth 20000 in
theorem gX4_ifWritten_X4_isWord : GoodIn wsX4_ifWritten (va_wsS RX4 85 yX4_isWord wsX4_isWord) := goodIn_app (goodIn_of _ (by decide +kernel)) ggX4_ifWritten_X4_isWord
set_option maxRecDepth 20000 in
theorem ggX4_ifWritten_X4_fails : GoodIn wsX4_ifWritten wsX4_fails := goodIn_r _ [13, 1, 47, 48, 49, 50, 51, 52, 53, 54, 55, 56, 57, 58] (by decide +kernel) (by decide +kernel)
set_option maxRecDepth 20000 in
theorem gX4_ifWritten_X4_fails : GoodIn wsX4_ifWritten (wsV RX4 40 RX4 yX4_fails wsX4_fails) := goodIn_app (goodIn_of _ (by decide +kernel)) ggX4_ifWritten_X4_fails
set_option maxRecDepth 20000 in
theorem ggX4_ifWritten_X4_isNumber : GoodIn wsX4_ifWritten wsX4_isNumber := goodIn_r _ [16, 7, 8, 5, 9] (by decide +kernel) (by decide +kernel)
set_option maxRecDepth 20000 in
theorem gX4_ifWritten_X4_isNumber : GoodIn wsX4_ifWritten (va_wsS RX4 89 yX4_isNumber wsX4_isNumber) := goodIn_app (goodIn_of _ (by decide +kernel)) ggX4_ifWritten_X4_isNumber
set_option maxRecDepth 20000 in
theorem ggX4_ifWritten_X4_goesTo : GoodIn wsX4_ifWritten wsX4_goesTo := goodIn_r _ [19, 20, 21, 5, 22, 23, 24, 25, 26, 27, 28, 29, 30, 31, 32, 33, 34, 35, 36, 37, 38, 39, 40, 41, 42, 43, 44, 45, 46] (by decide +kernel) (by decide +kernel)
set_option maxRecDepth 20000 in
theorem gX4_ifWritten_X4_goesTo : GoodIn wsX4_ifWritten (va_wsS RX4 76 yX4_goesTo wsX4_goesTo) := goodIn_app (goodIn_of _ (by decide +kernel)) ggX4_ifWritten_X4_goesTo
theorem dX4_ifWritten_0 : decode cX4_ifWritten 0 = .ok (.aload_n 0, 1) := by decide +kernel
theorem dX4_ifWritten_1 : decode cX4_ifWritten 1 = .ok (.iconst 0, 1) := by decide +kernel
theorem dX4_ifWritten_2 : decode cX4_ifWritten 2 = .ok (.putfield 25, 3) := by decide +kernel
theorem dX4_ifWritten_5 : decode cX4_ifWritten 5 = .ok (.iload_n 1, 1) := by decide +kernel
theorem dX4_ifWritten_6 : decode cX4_ifWritten 6 = .ok (.invokestatic 85, 3) := by decide +kernel
theorem dX4_ifWritten_9 : decode cX4_ifWritten 9 = .ok (.ifCond .ne 9, 3) := by decide +kernel
theorem dX4_ifWritten_12 : decode cX4_ifWritten 12 = .ok (.aload_n 0, 1) := by decide +kernel
theorem dX4_ifWritten_13 : decode cX4_ifWritten 13 = .ok (.iconst 1, 1) := by decide +kernel
theorem dX4_ifWritten_14 : decode cX4_ifWritten 14 = .ok (.invokevirtual 40, 3) := by decide +kernel
theorem dX4_ifWritten_17 : decode cX4_ifWritten 17 = .ok (.ireturn, 1) := by decide +kernel
theorem dX4_ifWritten_18 : decode cX4_ifWritten 18 = .ok (.iload_n 2, 1) := by decide +kernel
theorem dX4_ifWritten_19 : decode cX4_ifWritten 19 = .ok (.invokestatic 89, 3) := by decide +kernel
theorem dX4_ifWritten_22 : decode cX4_ifWritten 22 = .ok (.ifCond .eq 15, 3) := by decide +kernel
theorem dX4_ifWritten_25 : decode cX4_ifWritten 25 = .ok (.aload_n 0, 1) := by decide +kernel
theorem dX4_ifWritten_26 : decode cX4_ifWritten 26 = .ok (.getfield 7, 3) := by decide +kernel
theorem dX4_ifWritten_29 : decode cX4_ifWritten 29 = .ok (.iload_n 1, 1) := by decide +kernel
theorem dX4_ifWritten_30 : decode cX4_ifWritten 30 = .ok (.iload_n 2, 1) := by decide +kernel
theorem dX4_ifWritten_31 : decode cX4_ifWritten 31 = .ok (.invokestatic 76, 3) := by decide +kernel
theorem dX4_ifWritten_34 : decode cX4_ifWritten 34 = .ok (.goto 8, 3) := by decide +kernel
theorem dX4_ifWritten_37 : decode cX4_ifWritten 37 = .ok (.aload_n 0, 1) := by decide +kernel
theorem dX4_ifWritten_38 : decode cX4_ifWritten 38 = .ok (.iconst 2, 1) := by decide +kernel
theorem dX4_ifWritten_39 : decode cX4_ifWritten 39 = .ok (.invokevirtual 40, 3) := by decide +kernel
theorem dX4_ifWritten_42 : decode cX4_ifWritten 42 = .ok (.ireturn, 1) := by decide +kernel
set_option maxRecDepth 20000 in
theorem ggX4_dearest_X4_stuck : GoodIn wsX4_dearest wsX4_stuck := goodIn_r _ [5, 6, 7, 4, 8] (by decide +kernel) (by decide +kernel)
set_option maxRecDepth 20000 in
theorem gX4_dearest_X4_stuck : GoodIn wsX4_dearest (va_wsS RX4 55 yX4_stuck wsX4_stuck) := goodIn_app (goodIn_of _ (by decide +kernel)) ggX4_dearest_X4_stuck
set_option maxRecDepth 20000 in
theorem ggX4_dearest_X4_costs : GoodIn wsX4_dearest wsX4_costs := goodIn_r _ [11, 12, 13, 4, 14, 15, 16, 17] (by decide +kernel) (by decide +kernel)
set_option maxRecDepth 20000 in
theorem gX4_dearest_X4_costs : GoodIn wsX4_dearest (va_wsS RX4 156 yX4_costs wsX4_costs) := goodIn_app (goodIn_of _ (by decide +kernel)) ggX4_dearest_X4_costs
theorem dX4_dearest_0 : decode cX4_dearest 0 = .ok (.aload_n 0, 1) := by decide +kernel
theorem dX4_dearest_1 : decode cX4_dearest 1 = .ok (.getfield 7, 3) := by decide +kernel
theorem dX4_dearest_4 : decode cX4_dearest 4 = .ok (.sipush 259, 3) := by decide +kernel
theorem dX4_dearest_7 : decode cX4_dearest 7 = .ok (.iload_n 1, 1) := by decide +kernel
theorem dX4_dearest_8 : decode cX4_dearest 8 = .ok (.iadd, 1) := by decide +kernel
theorem dX4_dearest_9 : decode cX4_dearest 9 = .ok (.iaload, 1) := by decide +kernel
theorem dX4_dearest_10 : decode cX4_dearest 10 = .ok (.istore_n 2, 1) := by decide +kernel
theorem dX4_dearest_11 : decode cX4_dearest 11 = .ok (.aload_n 0, 1) := by decide +kernel
theorem dX4_dearest_12 : decode cX4_dearest 12 = .ok (.getfield 7, 3) := by decide +kernel
theorem dX4_dearest_15 : decode cX4_dearest 15 = .ok (.iload_n 2, 1) := by decide +kernel
theorem dX4_dearest_16 : decode cX4_dearest 16 = .ok (.invokestatic 55, 3) := by decide +kernel
theorem dX4_dearest_19 : decode cX4_dearest 19 = .ok (.istore_n 3, 1) := by decide +kernel
theorem dX4_dearest_20 : decode cX4_dearest 20 = .ok (.iconst (-1), 1) := by decide +kernel
theorem dX4_dearest_21 : decode cX4_dearest 21 = .ok (.istore 4, 2) := by decide +kernel
theorem dX4_dearest_23 : decode cX4_dearest 23 = .ok (.iconst (-1), 1) := by decide +kernel
theorem dX4_dearest_24 : decode cX4_dearest 24 = .ok (.istore 5, 2) := by decide +kernel
theorem dX4_dearest_26 : decode cX4_dearest 26 = .ok (.iconst 0, 1) := by decide +kernel
theorem dX4_dearest_27 : decode cX4_dearest 27 = .ok (.istore 6, 2) := by decide +kernel
theorem dX4_dearest_29 : decode cX4_dearest 29 = .ok (.iload 6, 2) := by decide +kernel
theorem dX4_dearest_31 : decode cX4_dearest 31 = .ok (.sipush 4095, 3) := by decide +kernel
theorem dX4_dearest_34 : decode cX4_dearest 34 = .ok (.if_icmp .gt 54, 3) := by decide +kernel
theorem dX4_dearest_37 : decode cX4_dearest 37 = .ok (.aload_n 0, 1) := by decide +kernel
theorem dX4_dearest_38 : decode cX4_dearest 38 = .ok (.getfield 7, 3) := by decide +kernel
theorem dX4_dearest_41 : decode cX4_dearest 41 = .ok (.iload_n 2, 1) := by decide +kernel
theorem dX4_dearest_42 : decode cX4_dearest 42 = .ok (.iload 6, 2) := by decide +kernel
theorem dX4_dearest_44 : decode cX4_dearest 44 = .ok (.iload_n 3, 1) := by decide +kernel
theorem dX4_dearest_45 : decode cX4_dearest 45 = .ok (.invokestatic 156, 3) := by decide +kernel
theorem dX4_dearest_48 : decode cX4_dearest 48 = .ok (.istore 7, 2) := by decide +kernel
theorem dX4_dearest_50 : decode cX4_dearest 50 = .ok (.iload 7, 2) := by decide +kernel
theorem dX4_dearest_52 : decode cX4_dearest 52 = .ok (.iload 5, 2) := by decide +kernel
theorem dX4_dearest_54 : decode cX4_dearest 54 = .ok (.if_icmp .le 8, 3) := by decide +kernel
theorem dX4_dearest_57 : decode cX4_dearest 57 = .ok (.iload 6, 2) := by decide +kernel
theorem dX4_dearest_59 : decode cX4_dearest 59 = .ok (.goto 5, 3) := by decide +kernel
theorem dX4_dearest_62 : decode cX4_dearest 62 = .ok (.iload 4, 2) := by decide +kernel
theorem dX4_dearest_64 : decode cX4_dearest 64 = .ok (.istore 4, 2) := by decide +kernel
theorem dX4_dearest_66 : decode cX4_dearest 66 = .ok (.iload 7, 2) := by decide +kernel
theorem dX4_dearest_68 : decode cX4_dearest 68 = .ok (.iload 5, 2) := by decide +kernel
theorem dX4_dearest_70 : decode cX4_dearest 70 = .ok (.if_icmp .le 8, 3) := by decide +kernel
theorem dX4_dearest_73 : decode cX4_dearest 73 = .ok (.iload 7, 2) := by decide +kernel
theorem dX4_dearest_75 : decode cX4_dearest 75 = .ok (.goto 5, 3) := by decide +kernel
theorem dX4_dearest_78 : decode cX4_dearest 78 = .ok (.iload 5, 2) := by decide +kernel
theorem dX4_dearest_80 : decode cX4_dearest 80 = .ok (.istore 5, 2) := by decide +kernel
theorem dX4_dearest_82 : decode cX4_dearest 82 = .ok (.iinc 6 1, 3) := by decide +kernel
theorem dX4_dearest_85 : decode cX4_dearest 85 = .ok (.goto (-56), 3) := by decide +kernel
theorem dX4_dearest_88 : decode cX4_dearest 88 = .ok (.iload 4, 2) := by decide +kernel
theorem dX4_dearest_90 : decode cX4_dearest 90 = .ok (.ireturn, 1) := by decide +kernel
set_option maxRecDepth 20000 in
theorem ggX4_costliest_X4_isWord : GoodIn wsX4_costliest wsX4_isWord := goodIn_r _ [5, 6, 7, 4, 8] (by decide +kernel) (by decide +kernel)
set_option maxRecDepth 20000 in
theorem gX4_costliest_X4_isWord : GoodIn wsX4_costliest (va_wsS RX4 85 yX4_isWord wsX4_isWord) := goodIn_app (goodIn_of _ (by decide +kernel)) ggX4_costliest_X4_isWord
set_option maxRecDepth 20000 in
theorem ggX4_costliest_X4_dearest : GoodIn wsX4_costliest wsX4_dearest := goodIn_r _ [12, 13, 14, 15, 4, 16, 17, 18, 19, 20, 21, 22, 23, 24, 25, 26, 27, 28, 33, 34, 35, 36, 37, 38, 39, 40, 41, 42, 43, 44] (by decide +kernel) (by decide +kernel)
set_option maxRecDepth 20000 in
theorem gX4_costliest_X4_dearest : GoodIn wsX4_costliest (wsV RX4 159 RX4 yX4_dearest wsX4_dearest) := goodIn_app (goodIn_of _ (by decide +kernel)) ggX4_costliest_X4_dearest
set_option maxRecDepth 20000 in
theorem ggX4_costliest_X4_fails : GoodIn wsX4_costliest wsX4_fails := goodIn_r _ [32, 1, 33, 34, 35, 36, 37, 38, 39, 40, 41, 42, 43, 44] (by decide +kernel) (by decide +kernel)
set_option maxRecDepth 20000 in
theorem gX4_costliest_X4_fails : GoodIn wsX4_costliest (wsV RX4 40 RX4 yX4_fails wsX4_fails) := goodIn_app (goodIn_of _ (by decide +kernel)) ggX4_costliest_X4_fails
theorem dX4_costliest_0 : decode cX4_costliest 0 = .ok (.aload_n 0, 1) := by decide +kernel
theorem dX4_costliest_1 : decode cX4_costliest 1 = .ok (.iconst 0, 1) := by decide +kernel
theorem dX4_costliest_2 : decode cX4_costliest 2 = .ok (.putfield 25, 3) := by decide +kernel
theorem dX4_costliest_5 : decode cX4_costliest 5 = .ok (.iload_n 1, 1) := by decide +kernel
theorem dX4_costliest_6 : decode cX4_costliest 6 = .ok (.invokestatic 85, 3) := by decide +kernel
theorem dX4_costliest_9 : decode cX4_costliest 9 = .ok (.ifCond .eq 11, 3) := by decide +kernel
theorem dX4_costliest_12 : decode cX4_costliest 12 = .ok (.aload_n 0, 1) := by decide +kernel
theorem dX4_costliest_13 : decode cX4_costliest 13 = .ok (.iload_n 1, 1) := by decide +kernel
theorem dX4_costliest_14 : decode cX4_costliest 14 = .ok (.invokevirtual 159, 3) := by decide +kernel
theorem dX4_costliest_17 : decode cX4_costliest 17 = .ok (.goto 8, 3) := by decide +kernel
theorem dX4_costliest_20 : decode cX4_costliest 20 = .ok (.aload_n 0, 1) := by decide +kernel
theorem dX4_costliest_21 : decode cX4_costliest 21 = .ok (.iconst 1, 1) := by decide +kernel
theorem dX4_costliest_22 : decode cX4_costliest 22 = .ok (.invokevirtual 40, 3) := by decide +kernel
theorem dX4_costliest_25 : decode cX4_costliest 25 = .ok (.ireturn, 1) := by decide +kernel
set_option maxRecDepth 20000 in
theorem ggX4_lives_X4_copies : GoodIn wsX4_lives wsX4_copies := goodIn_r _ [6] (by decide +kernel) (by decide +kernel)
set_option maxRecDepth 20000 in
theorem gX4_lives_X4_copies : GoodIn wsX4_lives (va_wsS RX4 36 yX4_copies wsX4_copies) := goodIn_app (goodIn_of _ (by decide +kernel)) ggX4_lives_X4_copies
set_option maxRecDepth 20000 in
theorem ggX4_lives_X4_hammers : GoodIn wsX4_lives wsX4_hammers := goodIn_r _ [9, 10, 11, 5, 12, 13, 14, 15, 16, 17, 18, 19, 20, 21, 22, 23, 24, 25, 26, 27, 28, 29, 30, 31, 32, 33, 34, 35, 36, 37, 38, 39, 40, 41, 42, 43, 44, 45] (by decide +kernel) (by decide +kernel)
set_option maxRecDepth 20000 in
theorem gX4_lives_X4_hammers : GoodIn wsX4_lives (va_wsS RX4 95 yX4_hammers wsX4_hammers) := goodIn_app (goodIn_of _ (by decide +kernel)) ggX4_lives_X4_hammers
theorem dX4_lives_0 : decode cX4_lives 0 = .ok (.aload_n 0, 1) := by decide +kernel
theorem dX4_lives_1 : decode cX4_lives 1 = .ok (.getfield 7, 3) := by decide +kernel
theorem dX4_lives_4 : decode cX4_lives 4 = .ok (.iconst 0, 1) := by decide +kernel
theorem dX4_lives_5 : decode cX4_lives 5 = .ok (.aload_n 0, 1) := by decide +kernel
theorem dX4_lives_6 : decode cX4_lives 6 = .ok (.getfield 13, 3) := by decide +kernel
theorem dX4_lives_9 : decode cX4_lives 9 = .ok (.iconst 0, 1) := by decide +kernel
theorem dX4_lives_10 : decode cX4_lives 10 = .ok (.invokestatic 36, 3) := by decide +kernel
theorem dX4_lives_13 : decode cX4_lives 13 = .ok (.aload_n 0, 1) := by decide +kernel
theorem dX4_lives_14 : decode cX4_lives 14 = .ok (.getfield 13, 3) := by decide +kernel
theorem dX4_lives_17 : decode cX4_lives 17 = .ok (.iload_n 1, 1) := by decide +kernel
theorem dX4_lives_18 : decode cX4_lives 18 = .ok (.iload_n 2, 1) := by decide +kernel
theorem dX4_lives_19 : decode cX4_lives 19 = .ok (.sipush 500, 3) := by decide +kernel
theorem dX4_lives_22 : decode cX4_lives 22 = .ok (.invokestatic 95, 3) := by decide +kernel
theorem dX4_lives_25 : decode cX4_lives 25 = .ok (.ireturn, 1) := by decide +kernel
set_option maxRecDepth 20000 in
theorem ggX4_life_X4_isWord : GoodIn wsX4_life wsX4_isWord := goodIn_r _ [5, 6, 7, 4, 8] (by decide +kernel) (by decide +kernel)
set_option maxRecDepth 20000 in
theorem gX4_life_X4_isWord : GoodIn wsX4_life (va_wsS RX4 85 yX4_isWord wsX4_isWord) := goodIn_app (goodIn_of _ (by decide +kernel)) ggX4_life_X4_isWord
set_option maxRecDepth 20000 in
theorem ggX4_life_X4_fails : GoodIn wsX4_life wsX4_fails := goodIn_r _ [12, 1, 64, 65, 66, 67, 68, 69, 70, 71, 72, 73, 74, 75] (by decide +kernel) (by decide +kernel)
set_option maxRecDepth 20000 in
theorem gX4_life_X4_fails : GoodIn wsX4_life (wsV RX4 40 RX4 yX4_fails wsX4_fails) := goodIn_app (goodIn_of _ (by decide +kernel)) ggX4_life_X4_fails
set_option maxRecDepth 20000 in
theorem ggX4_life_X4_isNumber : GoodIn wsX4_life wsX4_isNumber := goodIn_r _ [15, 6, 7, 4, 8] (by decide +kernel) (by decide +kernel)
set_option maxRecDepth 20000 in
theorem gX4_life_X4_isNumber : GoodIn wsX4_life (va_wsS RX4 89 yX4_isNumber wsX4_isNumber) := goodIn_app (goodIn_of _ (by decide +kernel)) ggX4_life_X4_isNumber
set_option maxRecDepth 20000 in
theorem ggX4_life_X4_lives : GoodIn wsX4_life wsX4_lives := goodIn_r _ [19, 20, 21, 22, 23, 4, 24, 25, 26, 27, 28, 29, 30, 31, 32, 33, 34, 35, 36, 37, 38, 39, 40, 41, 42, 43, 44, 45, 46, 47, 48, 49, 50, 51, 52, 53, 54, 55, 56, 57, 58, 59, 60, 61, 62, 63, 64, 65, 66, 67, 68, 69, 70, 71, 72, 73, 74, 75] (by decide +kernel) (by decide +kernel)
set_option maxRecDepth 20000 in
theorem gX4_life_X4_lives : GoodIn wsX4_life (wsV RX4 162 RX4 yX4_lives wsX4_lives) := goodIn_app (goodIn_of _ (by decide +kernel)) ggX4_life_X4_lives
theorem dX4_life_0 : decode cX4_life 0 = .ok (.aload_n 0, 1) := by decide +kernel
theorem dX4_life_1 : decode cX4_life 1 = .ok (.iconst 0, 1) := by decide +kernel
theorem dX4_life_2 : decode cX4_life 2 = .ok (.putfield 25, 3) := by decide +kernel
theorem dX4_life_5 : decode cX4_life 5 = .ok (.iload_n 1, 1) := by decide +kernel
theorem dX4_life_6 : decode cX4_life 6 = .ok (.invokestatic 85, 3) := by decide +kernel
theorem dX4_life_9 : decode cX4_life 9 = .ok (.ifCond .ne 9, 3) := by decide +kernel
theorem dX4_life_12 : decode cX4_life 12 = .ok (.aload_n 0, 1) := by decide +kernel
theorem dX4_life_13 : decode cX4_life 13 = .ok (.iconst 1, 1) := by decide +kernel
theorem dX4_life_14 : decode cX4_life 14 = .ok (.invokevirtual 40, 3) := by decide +kernel
theorem dX4_life_17 : decode cX4_life 17 = .ok (.ireturn, 1) := by decide +kernel
theorem dX4_life_18 : decode cX4_life 18 = .ok (.iload_n 2, 1) := by decide +kernel
theorem dX4_life_19 : decode cX4_life 19 = .ok (.invokestatic 89, 3) := by decide +kernel
theorem dX4_life_22 : decode cX4_life 22 = .ok (.ifCond .eq 12, 3) := by decide +kernel
theorem dX4_life_25 : decode cX4_life 25 = .ok (.aload_n 0, 1) := by decide +kernel
theorem dX4_life_26 : decode cX4_life 26 = .ok (.iload_n 1, 1) := by decide +kernel
theorem dX4_life_27 : decode cX4_life 27 = .ok (.iload_n 2, 1) := by decide +kernel
theorem dX4_life_28 : decode cX4_life 28 = .ok (.invokevirtual 162, 3) := by decide +kernel
theorem dX4_life_31 : decode cX4_life 31 = .ok (.goto 8, 3) := by decide +kernel
theorem dX4_life_34 : decode cX4_life 34 = .ok (.aload_n 0, 1) := by decide +kernel
theorem dX4_life_35 : decode cX4_life 35 = .ok (.iconst 2, 1) := by decide +kernel
theorem dX4_life_36 : decode cX4_life 36 = .ok (.invokevirtual 40, 3) := by decide +kernel
theorem dX4_life_39 : decode cX4_life 39 = .ok (.ireturn, 1) := by decide +kernel
theorem dX4_saved_0 : decode cX4_saved 0 = .ok (.aload_n 0, 1) := by decide +kernel
theorem dX4_saved_1 : decode cX4_saved 1 = .ok (.getfield 7, 3) := by decide +kernel
theorem dX4_saved_4 : decode cX4_saved 4 = .ok (.iconst 4, 1) := by decide +kernel
theorem dX4_saved_5 : decode cX4_saved 5 = .ok (.iaload, 1) := by decide +kernel
theorem dX4_saved_6 : decode cX4_saved 6 = .ok (.ifCond .ne 7, 3) := by decide +kernel
theorem dX4_saved_9 : decode cX4_saved 9 = .ok (.dconst 1, 1) := by decide +kernel
theorem dX4_saved_10 : decode cX4_saved 10 = .ok (.goto 18, 3) := by decide +kernel
theorem dX4_saved_13 : decode cX4_saved 13 = .ok (.aload_n 0, 1) := by decide +kernel
theorem dX4_saved_14 : decode cX4_saved 14 = .ok (.getfield 7, 3) := by decide +kernel
theorem dX4_saved_17 : decode cX4_saved 17 = .ok (.iconst 3, 1) := by decide +kernel
theorem dX4_saved_18 : decode cX4_saved 18 = .ok (.iaload, 1) := by decide +kernel
theorem dX4_saved_19 : decode cX4_saved 19 = .ok (.i2d, 1) := by decide +kernel
theorem dX4_saved_20 : decode cX4_saved 20 = .ok (.aload_n 0, 1) := by decide +kernel
theorem dX4_saved_21 : decode cX4_saved 21 = .ok (.getfield 7, 3) := by decide +kernel
theorem dX4_saved_24 : decode cX4_saved 24 = .ok (.iconst 4, 1) := by decide +kernel
theorem dX4_saved_25 : decode cX4_saved 25 = .ok (.iaload, 1) := by decide +kernel
theorem dX4_saved_26 : decode cX4_saved 26 = .ok (.i2d, 1) := by decide +kernel
theorem dX4_saved_27 : decode cX4_saved 27 = .ok (.ddiv, 1) := by decide +kernel
theorem dX4_saved_28 : decode cX4_saved 28 = .ok (.dreturn, 1) := by decide +kernel
set_option maxRecDepth 20000 in
theorem ggX4_share_X4_saved : GoodIn wsX4_share wsX4_saved := goodIn_r _ [6, 7, 8, 9, 10, 11, 12, 13, 14, 15, 16, 17, 18, 19] (by decide +kernel) (by decide +kernel)
set_option maxRecDepth 20000 in
theorem gX4_share_X4_saved : GoodIn wsX4_share (wsV RX4 165 RX4 yX4_saved wsX4_saved) := goodIn_app (goodIn_of _ (by decide +kernel)) ggX4_share_X4_saved
theorem dX4_share_0 : decode cX4_share 0 = .ok (.aload_n 0, 1) := by decide +kernel
theorem dX4_share_1 : decode cX4_share 1 = .ok (.iconst 0, 1) := by decide +kernel
theorem dX4_share_2 : decode cX4_share 2 = .ok (.putfield 25, 3) := by decide +kernel
theorem dX4_share_5 : decode cX4_share 5 = .ok (.aload_n 0, 1) := by decide +kernel
theorem dX4_share_6 : decode cX4_share 6 = .ok (.invokevirtual 165, 3) := by decide +kernel
theorem dX4_share_9 : decode cX4_share 9 = .ok (.dreturn, 1) := by decide +kernel
set_option maxRecDepth 20000 in
theorem ggX4_digest_X4_counted : GoodIn wsX4_digest wsX4_counted := goodIn_r _ [11, 4, 12, 13, 14, 15, 10, 16, 17, 18, 19, 20, 21, 22, 23, 24, 25, 26, 27, 28, 29, 30, 31, 32, 33, 34, 35, 36, 37, 38, 39, 40, 41, 42, 43, 44, 45, 46, 47, 48, 49, 50, 51, 52, 53, 54, 103, 104, 105, 106, 107, 108, 109, 110, 111, 112, 113, 114] (by decide +kernel) (by decide +kernel)
set_option maxRecDepth 20000 in
theorem gX4_digest_X4_counted : GoodIn wsX4_digest (wsV RX4 153 RX4 yX4_counted wsX4_counted) := goodIn_app (goodIn_of _ (by decide +kernel)) ggX4_digest_X4_counted
set_option maxRecDepth 20000 in
theorem ggX4_digest_X4_reads : GoodIn wsX4_digest wsX4_reads := goodIn_r _ [54] (by decide +kernel) (by decide +kernel)
set_option maxRecDepth 20000 in
theorem gX4_digest_X4_reads : GoodIn wsX4_digest (va_wsS RX4 79 yX4_reads wsX4_reads) := goodIn_app (goodIn_of _ (by decide +kernel)) ggX4_digest_X4_reads
set_option maxRecDepth 20000 in
theorem ggX4_digest_X4_ofWord : GoodIn wsX4_digest wsX4_ofWord := goodIn_r _ [48, 4, 49, 50, 10, 51, 103, 104, 105, 106, 107, 108, 109, 110, 111, 112, 113, 114] (by decide +kernel) (by decide +kernel)
set_option maxRecDepth 20000 in
theorem gX4_digest_X4_ofWord : GoodIn wsX4_digest (wsV RX4 135 RX4 yX4_ofWord wsX4_ofWord) := goodIn_app (goodIn_of _ (by decide +kernel)) ggX4_digest_X4_ofWord
set_option maxRecDepth 20000 in
theorem ggX4_digest_X4_goesTo : GoodIn wsX4_digest wsX4_goesTo := goodIn_r _ [57, 49, 50, 10, 51, 26, 27, 28, 29, 30, 31, 32, 33, 34, 17, 18, 19, 20, 21, 22, 35, 36, 37, 23, 24, 25, 38, 39, 40] (by decide +kernel) (by decide +kernel)
set_option maxRecDepth 20000 in
theorem gX4_digest_X4_goesTo : GoodIn wsX4_digest (va_wsS RX4 76 yX4_goesTo wsX4_goesTo) := goodIn_app (goodIn_of _ (by decide +kernel)) ggX4_digest_X4_goesTo
set_option maxRecDepth 20000 in
theorem ggX4_digest_X4_dearest : GoodIn wsX4_digest wsX4_dearest := goodIn_r _ [61, 4, 17, 18, 10, 19, 20, 21, 22, 62, 63, 64, 35, 36, 37, 23, 24, 25, 103, 104, 105, 106, 107, 108, 109, 110, 111, 112, 113, 114] (by decide +kernel) (by decide +kernel)
set_option maxRecDepth 20000 in
theorem gX4_digest_X4_dearest : GoodIn wsX4_digest (wsV RX4 159 RX4 yX4_dearest wsX4_dearest) := goodIn_app (goodIn_of _ (by decide +kernel)) ggX4_digest_X4_dearest
set_option maxRecDepth 20000 in
theorem ggX4_digest_X4_ofSlot : GoodIn wsX4_digest wsX4_ofSlot := goodIn_r _ [68, 4, 29, 30, 10, 31, 38, 39, 40, 20, 21, 22, 17, 18, 19, 69, 70, 71, 72, 103, 104, 105, 106, 107, 108, 109, 110, 111, 112, 113, 114] (by decide +kernel) (by decide +kernel)
set_option maxRecDepth 20000 in
theorem gX4_digest_X4_ofSlot : GoodIn wsX4_digest (wsV RX4 142 RX4 yX4_ofSlot wsX4_ofSlot) := goodIn_app (goodIn_of _ (by decide +kernel)) ggX4_digest_X4_ofSlot
set_option maxRecDepth 20000 in
theorem ggX4_digest_X4_stuck : GoodIn wsX4_digest wsX4_stuck := goodIn_r _ [19, 20, 21, 10, 22] (by decide +kernel) (by decide +kernel)
set_option maxRecDepth 20000 in
theorem gX4_digest_X4_stuck : GoodIn wsX4_digest (va_wsS RX4 55 yX4_stuck wsX4_stuck) := goodIn_app (goodIn_of _ (by decide +kernel)) ggX4_digest_X4_stuck
set_option maxRecDepth 20000 in
theorem ggX4_digest_X4_costs : GoodIn wsX4_digest wsX4_costs := goodIn_r _ [64, 35, 36, 10, 37, 23, 24, 25] (by decide +kernel) (by decide +kernel)
set_option maxRecDepth 20000 in
theorem gX4_digest_X4_costs : GoodIn wsX4_digest (va_wsS RX4 156 yX4_costs wsX4_costs) := goodIn_app (goodIn_of _ (by decide +kernel)) ggX4_digest_X4_costs
set_option maxRecDepth 20000 in
theorem ggX4_digest_X4_worn : GoodIn wsX4_digest wsX4_worn := goodIn_r _ [22] (by decide +kernel) (by decide +kernel)
set_option maxRecDepth 20000 in
theorem gX4_digest_X4_worn : GoodIn wsX4_digest (va_wsS RX4 44 yX4_worn wsX4_worn) := goodIn_app (goodIn_of _ (by decide +kernel)) ggX4_digest_X4_worn
set_option maxRecDepth 20000 in
theorem ggX4_digest_X4_lives : GoodIn wsX4_digest wsX4_lives := goodIn_r _ [76, 4, 77, 78, 79, 10, 80, 81, 82, 83, 84, 85, 86, 55, 56, 57, 49, 50, 51, 26, 27, 28, 29, 30, 31, 32, 33, 34, 17, 18, 19, 20, 21, 22, 35, 36, 37, 23, 24, 25, 38, 39, 40, 52, 53, 54, 103, 104, 105, 106, 107, 108, 109, 110, 111, 112, 113, 114] (by decide +kernel) (by decide +kernel)
set_option maxRecDepth 20000 in
theorem gX4_digest_X4_lives : GoodIn wsX4_digest (wsV RX4 162 RX4 yX4_lives wsX4_lives) := goodIn_app (goodIn_of _ (by decide +kernel)) ggX4_digest_X4_lives
set_option maxRecDepth 20000 in
theorem ggX4_digest_X4_saved : GoodIn wsX4_digest wsX4_saved := goodIn_r _ [90, 4, 103, 104, 105, 106, 107, 108, 109, 110, 111, 112, 113, 114] (by decide +kernel) (by decide +kernel)
set_option maxRecDepth 20000 in
theorem gX4_digest_X4_saved : GoodIn wsX4_digest (wsV RX4 165 RX4 yX4_saved wsX4_saved) := goodIn_app (goodIn_of _ (by decide +kernel)) ggX4_digest_X4_saved
set_option maxRecDepth 20000 in
theorem ggX4_digest_Jxe99ae_doubleToLongBits_ccdee : GoodIn wsX4_digest wsJxe99ae_doubleToLongBits_ccdee := goodIn_r _ [94, 95, 96, 97, 98, 99, 100, 101, 93, 102] (by decide +kernel) (by decide +kernel)
set_option maxRecDepth 20000 in
theorem gX4_digest_Jxe99ae_doubleToLongBits_ccdee : GoodIn wsX4_digest (va_wsS RX4 173 yJxe99ae_doubleToLongBits_ccdee wsJxe99ae_doubleToLongBits_ccdee) := goodIn_app (goodIn_of _ (by decide +kernel)) ggX4_digest_Jxe99ae_doubleToLongBits_ccdee
theorem dX4_digest_0 : decode cX4_digest 0 = .ok (.aload_n 0, 1) := by decide +kernel
theorem dX4_digest_1 : decode cX4_digest 1 = .ok (.iconst 0, 1) := by decide +kernel
theorem dX4_digest_2 : decode cX4_digest 2 = .ok (.putfield 25, 3) := by decide +kernel
theorem dX4_digest_5 : decode cX4_digest 5 = .ok (.ldc2_w 169, 3) := by decide +kernel
theorem dX4_digest_8 : decode cX4_digest 8 = .ok (.lstore_n 1, 1) := by decide +kernel
theorem dX4_digest_9 : decode cX4_digest 9 = .ok (.iconst 0, 1) := by decide +kernel
theorem dX4_digest_10 : decode cX4_digest 10 = .ok (.istore_n 3, 1) := by decide +kernel
theorem dX4_digest_11 : decode cX4_digest 11 = .ok (.iload_n 3, 1) := by decide +kernel
theorem dX4_digest_12 : decode cX4_digest 12 = .ok (.bipush 10, 2) := by decide +kernel
theorem dX4_digest_14 : decode cX4_digest 14 = .ok (.if_icmp .ge 22, 3) := by decide +kernel
theorem dX4_digest_17 : decode cX4_digest 17 = .ok (.ldc2_w 171, 3) := by decide +kernel
theorem dX4_digest_20 : decode cX4_digest 20 = .ok (.lload_n 1, 1) := by decide +kernel
theorem dX4_digest_21 : decode cX4_digest 21 = .ok (.lmul, 1) := by decide +kernel
theorem dX4_digest_22 : decode cX4_digest 22 = .ok (.aload_n 0, 1) := by decide +kernel
theorem dX4_digest_23 : decode cX4_digest 23 = .ok (.iload_n 3, 1) := by decide +kernel
theorem dX4_digest_24 : decode cX4_digest 24 = .ok (.invokevirtual 153, 3) := by decide +kernel
theorem dX4_digest_27 : decode cX4_digest 27 = .ok (.i2l, 1) := by decide +kernel
theorem dX4_digest_28 : decode cX4_digest 28 = .ok (.ladd, 1) := by decide +kernel
theorem dX4_digest_29 : decode cX4_digest 29 = .ok (.lstore_n 1, 1) := by decide +kernel
theorem dX4_digest_30 : decode cX4_digest 30 = .ok (.iinc 3 1, 3) := by decide +kernel
theorem dX4_digest_33 : decode cX4_digest 33 = .ok (.goto (-22), 3) := by decide +kernel
theorem dX4_digest_36 : decode cX4_digest 36 = .ok (.ldc2_w 171, 3) := by decide +kernel
theorem dX4_digest_39 : decode cX4_digest 39 = .ok (.ldc2_w 171, 3) := by decide +kernel
theorem dX4_digest_42 : decode cX4_digest 42 = .ok (.lload_n 1, 1) := by decide +kernel
theorem dX4_digest_43 : decode cX4_digest 43 = .ok (.lmul, 1) := by decide +kernel
theorem dX4_digest_44 : decode cX4_digest 44 = .ok (.aload_n 0, 1) := by decide +kernel
theorem dX4_digest_45 : decode cX4_digest 45 = .ok (.getfield 7, 3) := by decide +kernel
theorem dX4_digest_48 : decode cX4_digest 48 = .ok (.iconst 0, 1) := by decide +kernel
theorem dX4_digest_49 : decode cX4_digest 49 = .ok (.iaload, 1) := by decide +kernel
theorem dX4_digest_50 : decode cX4_digest 50 = .ok (.i2l, 1) := by decide +kernel
theorem dX4_digest_51 : decode cX4_digest 51 = .ok (.ladd, 1) := by decide +kernel
theorem dX4_digest_52 : decode cX4_digest 52 = .ok (.lmul, 1) := by decide +kernel
theorem dX4_digest_53 : decode cX4_digest 53 = .ok (.aload_n 0, 1) := by decide +kernel
theorem dX4_digest_54 : decode cX4_digest 54 = .ok (.getfield 7, 3) := by decide +kernel
theorem dX4_digest_57 : decode cX4_digest 57 = .ok (.iconst 1, 1) := by decide +kernel
theorem dX4_digest_58 : decode cX4_digest 58 = .ok (.iaload, 1) := by decide +kernel
theorem dX4_digest_59 : decode cX4_digest 59 = .ok (.i2l, 1) := by decide +kernel
theorem dX4_digest_60 : decode cX4_digest 60 = .ok (.ladd, 1) := by decide +kernel
theorem dX4_digest_61 : decode cX4_digest 61 = .ok (.lstore_n 1, 1) := by decide +kernel
theorem dX4_digest_62 : decode cX4_digest 62 = .ok (.iconst 0, 1) := by decide +kernel
theorem dX4_digest_63 : decode cX4_digest 63 = .ok (.istore_n 3, 1) := by decide +kernel
theorem dX4_digest_64 : decode cX4_digest 64 = .ok (.iload_n 3, 1) := by decide +kernel
theorem dX4_digest_65 : decode cX4_digest 65 = .ok (.bipush 16, 2) := by decide +kernel
theorem dX4_digest_67 : decode cX4_digest 67 = .ok (.if_icmp .ge 85, 3) := by decide +kernel
theorem dX4_digest_70 : decode cX4_digest 70 = .ok (.ldc2_w 171, 3) := by decide +kernel
theorem dX4_digest_73 : decode cX4_digest 73 = .ok (.lload_n 1, 1) := by decide +kernel
theorem dX4_digest_74 : decode cX4_digest 74 = .ok (.lmul, 1) := by decide +kernel
theorem dX4_digest_75 : decode cX4_digest 75 = .ok (.aload_n 0, 1) := by decide +kernel
theorem dX4_digest_76 : decode cX4_digest 76 = .ok (.getfield 7, 3) := by decide +kernel
theorem dX4_digest_79 : decode cX4_digest 79 = .ok (.iload_n 3, 1) := by decide +kernel
theorem dX4_digest_80 : decode cX4_digest 80 = .ok (.invokestatic 79, 3) := by decide +kernel
theorem dX4_digest_83 : decode cX4_digest 83 = .ok (.i2l, 1) := by decide +kernel
theorem dX4_digest_84 : decode cX4_digest 84 = .ok (.ladd, 1) := by decide +kernel
theorem dX4_digest_85 : decode cX4_digest 85 = .ok (.lstore_n 1, 1) := by decide +kernel
theorem dX4_digest_86 : decode cX4_digest 86 = .ok (.iconst 0, 1) := by decide +kernel
theorem dX4_digest_87 : decode cX4_digest 87 = .ok (.istore 4, 2) := by decide +kernel
theorem dX4_digest_89 : decode cX4_digest 89 = .ok (.iload 4, 2) := by decide +kernel
theorem dX4_digest_91 : decode cX4_digest 91 = .ok (.iconst 5, 1) := by decide +kernel
theorem dX4_digest_92 : decode cX4_digest 92 = .ok (.if_icmp .ge 24, 3) := by decide +kernel
theorem dX4_digest_95 : decode cX4_digest 95 = .ok (.ldc2_w 171, 3) := by decide +kernel
theorem dX4_digest_98 : decode cX4_digest 98 = .ok (.lload_n 1, 1) := by decide +kernel
theorem dX4_digest_99 : decode cX4_digest 99 = .ok (.lmul, 1) := by decide +kernel
theorem dX4_digest_100 : decode cX4_digest 100 = .ok (.aload_n 0, 1) := by decide +kernel
theorem dX4_digest_101 : decode cX4_digest 101 = .ok (.iload_n 3, 1) := by decide +kernel
theorem dX4_digest_102 : decode cX4_digest 102 = .ok (.iload 4, 2) := by decide +kernel
theorem dX4_digest_104 : decode cX4_digest 104 = .ok (.invokevirtual 135, 3) := by decide +kernel
theorem dX4_digest_107 : decode cX4_digest 107 = .ok (.i2l, 1) := by decide +kernel
theorem dX4_digest_108 : decode cX4_digest 108 = .ok (.ladd, 1) := by decide +kernel
theorem dX4_digest_109 : decode cX4_digest 109 = .ok (.lstore_n 1, 1) := by decide +kernel
theorem dX4_digest_110 : decode cX4_digest 110 = .ok (.iinc 4 1, 3) := by decide +kernel
theorem dX4_digest_113 : decode cX4_digest 113 = .ok (.goto (-24), 3) := by decide +kernel
theorem dX4_digest_116 : decode cX4_digest 116 = .ok (.ldc2_w 171, 3) := by decide +kernel
theorem dX4_digest_119 : decode cX4_digest 119 = .ok (.ldc2_w 171, 3) := by decide +kernel
theorem dX4_digest_122 : decode cX4_digest 122 = .ok (.lload_n 1, 1) := by decide +kernel
theorem dX4_digest_123 : decode cX4_digest 123 = .ok (.lmul, 1) := by decide +kernel
theorem dX4_digest_124 : decode cX4_digest 124 = .ok (.aload_n 0, 1) := by decide +kernel
theorem dX4_digest_125 : decode cX4_digest 125 = .ok (.getfield 7, 3) := by decide +kernel
theorem dX4_digest_128 : decode cX4_digest 128 = .ok (.iload_n 3, 1) := by decide +kernel
theorem dX4_digest_129 : decode cX4_digest 129 = .ok (.sipush 1365, 3) := by decide +kernel
theorem dX4_digest_132 : decode cX4_digest 132 = .ok (.invokestatic 76, 3) := by decide +kernel
theorem dX4_digest_135 : decode cX4_digest 135 = .ok (.i2l, 1) := by decide +kernel
theorem dX4_digest_136 : decode cX4_digest 136 = .ok (.ladd, 1) := by decide +kernel
theorem dX4_digest_137 : decode cX4_digest 137 = .ok (.lmul, 1) := by decide +kernel
theorem dX4_digest_138 : decode cX4_digest 138 = .ok (.aload_n 0, 1) := by decide +kernel
theorem dX4_digest_139 : decode cX4_digest 139 = .ok (.iload_n 3, 1) := by decide +kernel
theorem dX4_digest_140 : decode cX4_digest 140 = .ok (.invokevirtual 159, 3) := by decide +kernel
theorem dX4_digest_143 : decode cX4_digest 143 = .ok (.i2l, 1) := by decide +kernel
theorem dX4_digest_144 : decode cX4_digest 144 = .ok (.ladd, 1) := by decide +kernel
theorem dX4_digest_145 : decode cX4_digest 145 = .ok (.lstore_n 1, 1) := by decide +kernel
theorem dX4_digest_146 : decode cX4_digest 146 = .ok (.iinc 3 1, 3) := by decide +kernel
theorem dX4_digest_149 : decode cX4_digest 149 = .ok (.goto (-85), 3) := by decide +kernel
theorem dX4_digest_152 : decode cX4_digest 152 = .ok (.iconst 0, 1) := by decide +kernel
theorem dX4_digest_153 : decode cX4_digest 153 = .ok (.istore_n 3, 1) := by decide +kernel
theorem dX4_digest_154 : decode cX4_digest 154 = .ok (.iload_n 3, 1) := by decide +kernel
theorem dX4_digest_155 : decode cX4_digest 155 = .ok (.bipush 18, 2) := by decide +kernel
theorem dX4_digest_157 : decode cX4_digest 157 = .ok (.if_icmp .ge 67, 3) := by decide +kernel
theorem dX4_digest_160 : decode cX4_digest 160 = .ok (.iconst 0, 1) := by decide +kernel
theorem dX4_digest_161 : decode cX4_digest 161 = .ok (.istore 4, 2) := by decide +kernel
theorem dX4_digest_163 : decode cX4_digest 163 = .ok (.iload 4, 2) := by decide +kernel
theorem dX4_digest_165 : decode cX4_digest 165 = .ok (.bipush 6, 2) := by decide +kernel
theorem dX4_digest_167 : decode cX4_digest 167 = .ok (.if_icmp .ge 24, 3) := by decide +kernel
theorem dX4_digest_170 : decode cX4_digest 170 = .ok (.ldc2_w 171, 3) := by decide +kernel
theorem dX4_digest_173 : decode cX4_digest 173 = .ok (.lload_n 1, 1) := by decide +kernel
theorem dX4_digest_174 : decode cX4_digest 174 = .ok (.lmul, 1) := by decide +kernel
theorem dX4_digest_175 : decode cX4_digest 175 = .ok (.aload_n 0, 1) := by decide +kernel
theorem dX4_digest_176 : decode cX4_digest 176 = .ok (.iload_n 3, 1) := by decide +kernel
theorem dX4_digest_177 : decode cX4_digest 177 = .ok (.iload 4, 2) := by decide +kernel
theorem dX4_digest_179 : decode cX4_digest 179 = .ok (.invokevirtual 142, 3) := by decide +kernel
theorem dX4_digest_182 : decode cX4_digest 182 = .ok (.i2l, 1) := by decide +kernel
theorem dX4_digest_183 : decode cX4_digest 183 = .ok (.ladd, 1) := by decide +kernel
theorem dX4_digest_184 : decode cX4_digest 184 = .ok (.lstore_n 1, 1) := by decide +kernel
theorem dX4_digest_185 : decode cX4_digest 185 = .ok (.iinc 4 1, 3) := by decide +kernel
theorem dX4_digest_188 : decode cX4_digest 188 = .ok (.goto (-25), 3) := by decide +kernel
theorem dX4_digest_191 : decode cX4_digest 191 = .ok (.ldc2_w 171, 3) := by decide +kernel
theorem dX4_digest_194 : decode cX4_digest 194 = .ok (.lload_n 1, 1) := by decide +kernel
theorem dX4_digest_195 : decode cX4_digest 195 = .ok (.lmul, 1) := by decide +kernel
theorem dX4_digest_196 : decode cX4_digest 196 = .ok (.aload_n 0, 1) := by decide +kernel
theorem dX4_digest_197 : decode cX4_digest 197 = .ok (.getfield 7, 3) := by decide +kernel
theorem dX4_digest_200 : decode cX4_digest 200 = .ok (.iload_n 3, 1) := by decide +kernel
theorem dX4_digest_201 : decode cX4_digest 201 = .ok (.sipush 2730, 3) := by decide +kernel
theorem dX4_digest_204 : decode cX4_digest 204 = .ok (.aload_n 0, 1) := by decide +kernel
theorem dX4_digest_205 : decode cX4_digest 205 = .ok (.getfield 7, 3) := by decide +kernel
theorem dX4_digest_208 : decode cX4_digest 208 = .ok (.iload_n 3, 1) := by decide +kernel
theorem dX4_digest_209 : decode cX4_digest 209 = .ok (.invokestatic 55, 3) := by decide +kernel
theorem dX4_digest_212 : decode cX4_digest 212 = .ok (.invokestatic 156, 3) := by decide +kernel
theorem dX4_digest_215 : decode cX4_digest 215 = .ok (.i2l, 1) := by decide +kernel
theorem dX4_digest_216 : decode cX4_digest 216 = .ok (.ladd, 1) := by decide +kernel
theorem dX4_digest_217 : decode cX4_digest 217 = .ok (.lstore_n 1, 1) := by decide +kernel
theorem dX4_digest_218 : decode cX4_digest 218 = .ok (.iinc 3 1, 3) := by decide +kernel
theorem dX4_digest_221 : decode cX4_digest 221 = .ok (.goto (-67), 3) := by decide +kernel
theorem dX4_digest_224 : decode cX4_digest 224 = .ok (.iconst 0, 1) := by decide +kernel
theorem dX4_digest_225 : decode cX4_digest 225 = .ok (.istore_n 3, 1) := by decide +kernel
theorem dX4_digest_226 : decode cX4_digest 226 = .ok (.iload_n 3, 1) := by decide +kernel
theorem dX4_digest_227 : decode cX4_digest 227 = .ok (.bipush 13, 2) := by decide +kernel
theorem dX4_digest_229 : decode cX4_digest 229 = .ok (.if_icmp .ge 26, 3) := by decide +kernel
theorem dX4_digest_232 : decode cX4_digest 232 = .ok (.ldc2_w 171, 3) := by decide +kernel
theorem dX4_digest_235 : decode cX4_digest 235 = .ok (.lload_n 1, 1) := by decide +kernel
theorem dX4_digest_236 : decode cX4_digest 236 = .ok (.lmul, 1) := by decide +kernel
theorem dX4_digest_237 : decode cX4_digest 237 = .ok (.aload_n 0, 1) := by decide +kernel
theorem dX4_digest_238 : decode cX4_digest 238 = .ok (.getfield 7, 3) := by decide +kernel
theorem dX4_digest_241 : decode cX4_digest 241 = .ok (.iconst 0, 1) := by decide +kernel
theorem dX4_digest_242 : decode cX4_digest 242 = .ok (.iload_n 3, 1) := by decide +kernel
theorem dX4_digest_243 : decode cX4_digest 243 = .ok (.invokestatic 44, 3) := by decide +kernel
theorem dX4_digest_246 : decode cX4_digest 246 = .ok (.i2l, 1) := by decide +kernel
theorem dX4_digest_247 : decode cX4_digest 247 = .ok (.ladd, 1) := by decide +kernel
theorem dX4_digest_248 : decode cX4_digest 248 = .ok (.lstore_n 1, 1) := by decide +kernel
theorem dX4_digest_249 : decode cX4_digest 249 = .ok (.iinc 3 1, 3) := by decide +kernel
theorem dX4_digest_252 : decode cX4_digest 252 = .ok (.goto (-26), 3) := by decide +kernel
theorem dX4_digest_255 : decode cX4_digest 255 = .ok (.ldc2_w 171, 3) := by decide +kernel
theorem dX4_digest_258 : decode cX4_digest 258 = .ok (.lload_n 1, 1) := by decide +kernel
theorem dX4_digest_259 : decode cX4_digest 259 = .ok (.lmul, 1) := by decide +kernel
theorem dX4_digest_260 : decode cX4_digest 260 = .ok (.aload_n 0, 1) := by decide +kernel
theorem dX4_digest_261 : decode cX4_digest 261 = .ok (.iconst 0, 1) := by decide +kernel
theorem dX4_digest_262 : decode cX4_digest 262 = .ok (.sipush 819, 3) := by decide +kernel
theorem dX4_digest_265 : decode cX4_digest 265 = .ok (.invokevirtual 162, 3) := by decide +kernel
theorem dX4_digest_268 : decode cX4_digest 268 = .ok (.i2l, 1) := by decide +kernel
theorem dX4_digest_269 : decode cX4_digest 269 = .ok (.ladd, 1) := by decide +kernel
theorem dX4_digest_270 : decode cX4_digest 270 = .ok (.lstore_n 1, 1) := by decide +kernel
theorem dX4_digest_271 : decode cX4_digest 271 = .ok (.ldc2_w 171, 3) := by decide +kernel
theorem dX4_digest_274 : decode cX4_digest 274 = .ok (.ldc2_w 171, 3) := by decide +kernel
theorem dX4_digest_277 : decode cX4_digest 277 = .ok (.lload_n 1, 1) := by decide +kernel
theorem dX4_digest_278 : decode cX4_digest 278 = .ok (.lmul, 1) := by decide +kernel
theorem dX4_digest_279 : decode cX4_digest 279 = .ok (.aload_n 0, 1) := by decide +kernel
theorem dX4_digest_280 : decode cX4_digest 280 = .ok (.invokevirtual 165, 3) := by decide +kernel
theorem dX4_digest_283 : decode cX4_digest 283 = .ok (.invokestatic 173, 3) := by decide +kernel
theorem dX4_digest_286 : decode cX4_digest 286 = .ok (.ladd, 1) := by decide +kernel
theorem dX4_digest_287 : decode cX4_digest 287 = .ok (.lmul, 1) := by decide +kernel
theorem dX4_digest_288 : decode cX4_digest 288 = .ok (.aload_n 0, 1) := by decide +kernel
theorem dX4_digest_289 : decode cX4_digest 289 = .ok (.getfield 102, 3) := by decide +kernel
theorem dX4_digest_292 : decode cX4_digest 292 = .ok (.i2l, 1) := by decide +kernel
theorem dX4_digest_293 : decode cX4_digest 293 = .ok (.ladd, 1) := by decide +kernel
theorem dX4_digest_294 : decode cX4_digest 294 = .ok (.lstore_n 1, 1) := by decide +kernel
theorem dX4_digest_295 : decode cX4_digest 295 = .ok (.iconst 0, 1) := by decide +kernel
theorem dX4_digest_296 : decode cX4_digest 296 = .ok (.istore_n 3, 1) := by decide +kernel
theorem dX4_digest_297 : decode cX4_digest 297 = .ok (.iload_n 3, 1) := by decide +kernel
theorem dX4_digest_298 : decode cX4_digest 298 = .ok (.aload_n 0, 1) := by decide +kernel
theorem dX4_digest_299 : decode cX4_digest 299 = .ok (.getfield 102, 3) := by decide +kernel
theorem dX4_digest_302 : decode cX4_digest 302 = .ok (.if_icmp .ge 23, 3) := by decide +kernel
theorem dX4_digest_305 : decode cX4_digest 305 = .ok (.ldc2_w 171, 3) := by decide +kernel
theorem dX4_digest_308 : decode cX4_digest 308 = .ok (.lload_n 1, 1) := by decide +kernel
theorem dX4_digest_309 : decode cX4_digest 309 = .ok (.lmul, 1) := by decide +kernel
theorem dX4_digest_310 : decode cX4_digest 310 = .ok (.aload_n 0, 1) := by decide +kernel
theorem dX4_digest_311 : decode cX4_digest 311 = .ok (.getfield 19, 3) := by decide +kernel
theorem dX4_digest_314 : decode cX4_digest 314 = .ok (.iload_n 3, 1) := by decide +kernel
theorem dX4_digest_315 : decode cX4_digest 315 = .ok (.iaload, 1) := by decide +kernel
theorem dX4_digest_316 : decode cX4_digest 316 = .ok (.i2l, 1) := by decide +kernel
theorem dX4_digest_317 : decode cX4_digest 317 = .ok (.ladd, 1) := by decide +kernel
theorem dX4_digest_318 : decode cX4_digest 318 = .ok (.lstore_n 1, 1) := by decide +kernel
theorem dX4_digest_319 : decode cX4_digest 319 = .ok (.iinc 3 1, 3) := by decide +kernel
theorem dX4_digest_322 : decode cX4_digest 322 = .ok (.goto (-25), 3) := by decide +kernel
theorem dX4_digest_325 : decode cX4_digest 325 = .ok (.lload_n 1, 1) := by decide +kernel
theorem dX4_digest_326 : decode cX4_digest 326 = .ok (.lreturn, 1) := by decide +kernel
