theorem dX2_init_0 : decode cX2_init 0 = .ok (.aload_n 0, 1) := by decide +kernel
theorem dX2_init_1 : decode cX2_init 1 = .ok (.invokespecial 3, 3) := by decide +kernel
theorem dX2_init_4 : decode cX2_init 4 = .ok (.aload_n 0, 1) := by decide +kernel
theorem dX2_init_5 : decode cX2_init 5 = .ok (.bipush 60, 2) := by decide +kernel
theorem dX2_init_7 : decode cX2_init 7 = .ok (.newarray .int, 2) := by decide +kernel
theorem dX2_init_9 : decode cX2_init 9 = .ok (.putfield 9, 3) := by decide +kernel
theorem dX2_init_12 : decode cX2_init 12 = .ok (.aload_n 0, 1) := by decide +kernel
theorem dX2_init_13 : decode cX2_init 13 = .ok (.bipush 60, 2) := by decide +kernel
theorem dX2_init_15 : decode cX2_init 15 = .ok (.newarray .int, 2) := by decide +kernel
theorem dX2_init_17 : decode cX2_init 17 = .ok (.putfield 15, 3) := by decide +kernel
theorem dX2_init_20 : decode cX2_init 20 = .ok (.aload_n 0, 1) := by decide +kernel
theorem dX2_init_21 : decode cX2_init 21 = .ok (.bipush 60, 2) := by decide +kernel
theorem dX2_init_23 : decode cX2_init 23 = .ok (.newarray .int, 2) := by decide +kernel
theorem dX2_init_25 : decode cX2_init 25 = .ok (.putfield 18, 3) := by decide +kernel
theorem dX2_init_28 : decode cX2_init 28 = .ok (.return_, 1) := by decide +kernel
theorem dX2_add_0 : decode cX2_add 0 = .ok (.aload_n 0, 1) := by decide +kernel
theorem dX2_add_1 : decode cX2_add 1 = .ok (.getfield 9, 3) := by decide +kernel
theorem dX2_add_4 : decode cX2_add 4 = .ok (.aload_n 0, 1) := by decide +kernel
theorem dX2_add_5 : decode cX2_add 5 = .ok (.getfield 21, 3) := by decide +kernel
theorem dX2_add_8 : decode cX2_add 8 = .ok (.iload_n 1, 1) := by decide +kernel
theorem dX2_add_9 : decode cX2_add 9 = .ok (.iastore, 1) := by decide +kernel
theorem dX2_add_10 : decode cX2_add 10 = .ok (.aload_n 0, 1) := by decide +kernel
theorem dX2_add_11 : decode cX2_add 11 = .ok (.dup, 1) := by decide +kernel
theorem dX2_add_12 : decode cX2_add 12 = .ok (.getfield 21, 3) := by decide +kernel
theorem dX2_add_15 : decode cX2_add 15 = .ok (.iconst 1, 1) := by decide +kernel
theorem dX2_add_16 : decode cX2_add 16 = .ok (.iadd, 1) := by decide +kernel
theorem dX2_add_17 : decode cX2_add 17 = .ok (.putfield 21, 3) := by decide +kernel
theorem dX2_add_20 : decode cX2_add 20 = .ok (.return_, 1) := by decide +kernel
set_option maxRecDepth 20000 in
theorem ggX2_parse_X2_takes : GoodIn wsX2_parse wsX2_takes := goodIn_r _ [9, 1, 10, 11, 12, 13, 14, 15, 16, 8, 17, 2, 18, 19, 20, 21, 22, 23, 24, 25, 26, 27, 28, 29, 30] (by decide +kernel) (by decide +kernel)
set_option maxRecDepth 20000 in
theorem gX2_parse_X2_takes : GoodIn wsX2_parse (wsV RX2 31 RX2 yX2_takes wsX2_takes) := goodIn_app (goodIn_of _ (by decide +kernel)) ggX2_parse_X2_takes
theorem dX2_parse_0 : decode cX2_parse 0 = .ok (.aload_n 0, 1) := by decide +kernel
theorem dX2_parse_1 : decode cX2_parse 1 = .ok (.iconst 0, 1) := by decide +kernel
theorem dX2_parse_2 : decode cX2_parse 2 = .ok (.putfield 25, 3) := by decide +kernel
theorem dX2_parse_5 : decode cX2_parse 5 = .ok (.aload_n 0, 1) := by decide +kernel
theorem dX2_parse_6 : decode cX2_parse 6 = .ok (.iconst 0, 1) := by decide +kernel
theorem dX2_parse_7 : decode cX2_parse 7 = .ok (.putfield 28, 3) := by decide +kernel
theorem dX2_parse_10 : decode cX2_parse 10 = .ok (.iconst 0, 1) := by decide +kernel
theorem dX2_parse_11 : decode cX2_parse 11 = .ok (.istore_n 1, 1) := by decide +kernel
theorem dX2_parse_12 : decode cX2_parse 12 = .ok (.iload_n 1, 1) := by decide +kernel
theorem dX2_parse_13 : decode cX2_parse 13 = .ok (.aload_n 0, 1) := by decide +kernel
theorem dX2_parse_14 : decode cX2_parse 14 = .ok (.getfield 21, 3) := by decide +kernel
theorem dX2_parse_17 : decode cX2_parse 17 = .ok (.if_icmp .ge 24, 3) := by decide +kernel
theorem dX2_parse_20 : decode cX2_parse 20 = .ok (.aload_n 0, 1) := by decide +kernel
theorem dX2_parse_21 : decode cX2_parse 21 = .ok (.aload_n 0, 1) := by decide +kernel
theorem dX2_parse_22 : decode cX2_parse 22 = .ok (.getfield 9, 3) := by decide +kernel
theorem dX2_parse_25 : decode cX2_parse 25 = .ok (.iload_n 1, 1) := by decide +kernel
theorem dX2_parse_26 : decode cX2_parse 26 = .ok (.iaload, 1) := by decide +kernel
theorem dX2_parse_27 : decode cX2_parse 27 = .ok (.invokevirtual 31, 3) := by decide +kernel
theorem dX2_parse_30 : decode cX2_parse 30 = .ok (.ifCond .ne 5, 3) := by decide +kernel
theorem dX2_parse_33 : decode cX2_parse 33 = .ok (.iload_n 1, 1) := by decide +kernel
theorem dX2_parse_34 : decode cX2_parse 34 = .ok (.ireturn, 1) := by decide +kernel
theorem dX2_parse_35 : decode cX2_parse 35 = .ok (.iinc 1 1, 3) := by decide +kernel
theorem dX2_parse_38 : decode cX2_parse 38 = .ok (.goto (-26), 3) := by decide +kernel
theorem dX2_parse_41 : decode cX2_parse 41 = .ok (.aload_n 0, 1) := by decide +kernel
theorem dX2_parse_42 : decode cX2_parse 42 = .ok (.getfield 21, 3) := by decide +kernel
theorem dX2_parse_45 : decode cX2_parse 45 = .ok (.ireturn, 1) := by decide +kernel
set_option maxRecDepth 20000 in
theorem ggX2_isComplete_X2_parse : GoodIn wsX2_isComplete wsX2_parse := goodIn_r _ [7, 2, 8, 1, 9, 10, 11, 12, 6, 13, 14, 15, 16, 17, 18, 19, 20, 21, 22, 23, 24, 25, 26, 27, 28, 29, 30, 31, 32, 33, 34] (by decide +kernel) (by decide +kernel)
set_option maxRecDepth 20000 in
theorem gX2_isComplete_X2_parse : GoodIn wsX2_isComplete (wsV RX2 35 RX2 yX2_parse wsX2_parse) := goodIn_app (goodIn_of _ (by decide +kernel)) ggX2_isComplete_X2_parse
theorem dX2_isComplete_0 : decode cX2_isComplete 0 = .ok (.aload_n 0, 1) := by decide +kernel
theorem dX2_isComplete_1 : decode cX2_isComplete 1 = .ok (.invokevirtual 35, 3) := by decide +kernel
theorem dX2_isComplete_4 : decode cX2_isComplete 4 = .ok (.aload_n 0, 1) := by decide +kernel
theorem dX2_isComplete_5 : decode cX2_isComplete 5 = .ok (.getfield 21, 3) := by decide +kernel
theorem dX2_isComplete_8 : decode cX2_isComplete 8 = .ok (.if_icmp .ne 15, 3) := by decide +kernel
theorem dX2_isComplete_11 : decode cX2_isComplete 11 = .ok (.aload_n 0, 1) := by decide +kernel
theorem dX2_isComplete_12 : decode cX2_isComplete 12 = .ok (.getfield 25, 3) := by decide +kernel
theorem dX2_isComplete_15 : decode cX2_isComplete 15 = .ok (.iconst 3, 1) := by decide +kernel
theorem dX2_isComplete_16 : decode cX2_isComplete 16 = .ok (.if_icmp .ne 7, 3) := by decide +kernel
theorem dX2_isComplete_19 : decode cX2_isComplete 19 = .ok (.iconst 1, 1) := by decide +kernel
theorem dX2_isComplete_20 : decode cX2_isComplete 20 = .ok (.goto 4, 3) := by decide +kernel
theorem dX2_isComplete_23 : decode cX2_isComplete 23 = .ok (.iconst 0, 1) := by decide +kernel
theorem dX2_isComplete_24 : decode cX2_isComplete 24 = .ok (.ireturn, 1) := by decide +kernel
set_option maxRecDepth 20000 in
theorem ggX2_takes_X3_isOutside : GoodIn wsX2_takes wsX3_isOutside := goodIn_r _ [5] (by decide +kernel) (by decide +kernel)
set_option maxRecDepth 20000 in
theorem gX2_takes_X3_isOutside_n42 : GoodIn wsX2_takes (wsX3_isOutside) := ggX2_takes_X3_isOutside
set_option maxRecDepth 20000 in
theorem ggX2_takes_X2_takesFirstDigit : GoodIn wsX2_takes wsX2_takesFirstDigit := goodIn_r _ [10, 11, 12, 2, 13, 1, 3, 4, 5, 18, 19, 20, 21, 22, 23, 24] (by decide +kernel) (by decide +kernel)
set_option maxRecDepth 20000 in
theorem gX2_takes_X2_takesFirstDigit : GoodIn wsX2_takes (wsV RX2 46 RX2 yX2_takesFirstDigit wsX2_takesFirstDigit) := goodIn_app (goodIn_of _ (by decide +kernel)) ggX2_takes_X2_takesFirstDigit
set_option maxRecDepth 20000 in
theorem ggX2_takes_X2_takesInNumber : GoodIn wsX2_takes wsX2_takesInNumber := goodIn_r _ [17, 1, 11, 13, 3, 4, 5, 18, 19, 20, 21, 22, 23, 24] (by decide +kernel) (by decide +kernel)
set_option maxRecDepth 20000 in
theorem gX2_takes_X2_takesInNumber : GoodIn wsX2_takes (wsV RX2 49 RX2 yX2_takesInNumber wsX2_takesInNumber) := goodIn_app (goodIn_of _ (by decide +kernel)) ggX2_takes_X2_takesInNumber
theorem dX2_takes_0 : decode cX2_takes 0 = .ok (.aload_n 0, 1) := by decide +kernel
theorem dX2_takes_1 : decode cX2_takes 1 = .ok (.getfield 25, 3) := by decide +kernel
theorem dX2_takes_4 : decode cX2_takes 4 = .ok (.tableswitch 86 0 2 #[28, 60, 77], 28) := by decide +kernel
theorem dX2_takes_32 : decode cX2_takes 32 = .ok (.aload_n 0, 1) := by decide +kernel
theorem dX2_takes_33 : decode cX2_takes 33 = .ok (.iload_n 1, 1) := by decide +kernel
theorem dX2_takes_34 : decode cX2_takes 34 = .ok (.bipush 97, 2) := by decide +kernel
theorem dX2_takes_36 : decode cX2_takes 36 = .ok (.isub, 1) := by decide +kernel
theorem dX2_takes_37 : decode cX2_takes 37 = .ok (.putfield 39, 3) := by decide +kernel
theorem dX2_takes_40 : decode cX2_takes 40 = .ok (.aload_n 0, 1) := by decide +kernel
theorem dX2_takes_41 : decode cX2_takes 41 = .ok (.iconst 1, 1) := by decide +kernel
theorem dX2_takes_42 : decode cX2_takes 42 = .ok (.putfield 25, 3) := by decide +kernel
theorem dX2_takes_45 : decode cX2_takes 45 = .ok (.aload_n 0, 1) := by decide +kernel
theorem dX2_takes_46 : decode cX2_takes 46 = .ok (.getfield 39, 3) := by decide +kernel
theorem dX2_takes_49 : decode cX2_takes 49 = .ok (.iconst 0, 1) := by decide +kernel
theorem dX2_takes_50 : decode cX2_takes 50 = .ok (.bipush 15, 2) := by decide +kernel
theorem dX2_takes_52 : decode cX2_takes 52 = .ok (.invokestatic 42, 3) := by decide +kernel
theorem dX2_takes_55 : decode cX2_takes 55 = .ok (.ifCond .ne 7, 3) := by decide +kernel
theorem dX2_takes_58 : decode cX2_takes 58 = .ok (.iconst 1, 1) := by decide +kernel
theorem dX2_takes_59 : decode cX2_takes 59 = .ok (.goto 4, 3) := by decide +kernel
theorem dX2_takes_62 : decode cX2_takes 62 = .ok (.iconst 0, 1) := by decide +kernel
theorem dX2_takes_63 : decode cX2_takes 63 = .ok (.ireturn, 1) := by decide +kernel
theorem dX2_takes_64 : decode cX2_takes 64 = .ok (.aload_n 0, 1) := by decide +kernel
theorem dX2_takes_65 : decode cX2_takes 65 = .ok (.iconst 2, 1) := by decide +kernel
theorem dX2_takes_66 : decode cX2_takes 66 = .ok (.putfield 25, 3) := by decide +kernel
theorem dX2_takes_69 : decode cX2_takes 69 = .ok (.iload_n 1, 1) := by decide +kernel
theorem dX2_takes_70 : decode cX2_takes 70 = .ok (.bipush 61, 2) := by decide +kernel
theorem dX2_takes_72 : decode cX2_takes 72 = .ok (.if_icmp .ne 7, 3) := by decide +kernel
theorem dX2_takes_75 : decode cX2_takes 75 = .ok (.iconst 1, 1) := by decide +kernel
theorem dX2_takes_76 : decode cX2_takes 76 = .ok (.goto 4, 3) := by decide +kernel
theorem dX2_takes_79 : decode cX2_takes 79 = .ok (.iconst 0, 1) := by decide +kernel
theorem dX2_takes_80 : decode cX2_takes 80 = .ok (.ireturn, 1) := by decide +kernel
theorem dX2_takes_81 : decode cX2_takes 81 = .ok (.aload_n 0, 1) := by decide +kernel
theorem dX2_takes_82 : decode cX2_takes 82 = .ok (.iload_n 1, 1) := by decide +kernel
theorem dX2_takes_83 : decode cX2_takes 83 = .ok (.bipush 48, 2) := by decide +kernel
theorem dX2_takes_85 : decode cX2_takes 85 = .ok (.isub, 1) := by decide +kernel
theorem dX2_takes_86 : decode cX2_takes 86 = .ok (.invokevirtual 46, 3) := by decide +kernel
theorem dX2_takes_89 : decode cX2_takes 89 = .ok (.ireturn, 1) := by decide +kernel
theorem dX2_takes_90 : decode cX2_takes 90 = .ok (.aload_n 0, 1) := by decide +kernel
theorem dX2_takes_91 : decode cX2_takes 91 = .ok (.iload_n 1, 1) := by decide +kernel
theorem dX2_takes_92 : decode cX2_takes 92 = .ok (.invokevirtual 49, 3) := by decide +kernel
theorem dX2_takes_95 : decode cX2_takes 95 = .ok (.ireturn, 1) := by decide +kernel
set_option maxRecDepth 20000 in
theorem ggX2_takesFirstDigit_X3_isOutside : GoodIn wsX2_takesFirstDigit wsX3_isOutside := goodIn_r _ [8] (by decide +kernel) (by decide +kernel)
set_option maxRecDepth 20000 in
theorem gX2_takesFirstDigit_X3_isOutside_n42 : GoodIn wsX2_takesFirstDigit (wsX3_isOutside) := ggX2_takesFirstDigit_X3_isOutside
theorem dX2_takesFirstDigit_0 : decode cX2_takesFirstDigit 0 = .ok (.iload_n 1, 1) := by decide +kernel
theorem dX2_takesFirstDigit_1 : decode cX2_takesFirstDigit 1 = .ok (.iconst 0, 1) := by decide +kernel
theorem dX2_takesFirstDigit_2 : decode cX2_takesFirstDigit 2 = .ok (.bipush 9, 2) := by decide +kernel
theorem dX2_takesFirstDigit_4 : decode cX2_takesFirstDigit 4 = .ok (.invokestatic 42, 3) := by decide +kernel
theorem dX2_takesFirstDigit_7 : decode cX2_takesFirstDigit 7 = .ok (.ifCond .ne 16, 3) := by decide +kernel
theorem dX2_takesFirstDigit_10 : decode cX2_takesFirstDigit 10 = .ok (.aload_n 0, 1) := by decide +kernel
theorem dX2_takesFirstDigit_11 : decode cX2_takesFirstDigit 11 = .ok (.getfield 28, 3) := by decide +kernel
theorem dX2_takesFirstDigit_14 : decode cX2_takesFirstDigit 14 = .ok (.iconst 0, 1) := by decide +kernel
theorem dX2_takesFirstDigit_15 : decode cX2_takesFirstDigit 15 = .ok (.bipush 59, 2) := by decide +kernel
theorem dX2_takesFirstDigit_17 : decode cX2_takesFirstDigit 17 = .ok (.invokestatic 42, 3) := by decide +kernel
theorem dX2_takesFirstDigit_20 : decode cX2_takesFirstDigit 20 = .ok (.ifCond .eq 5, 3) := by decide +kernel
theorem dX2_takesFirstDigit_23 : decode cX2_takesFirstDigit 23 = .ok (.iconst 0, 1) := by decide +kernel
theorem dX2_takesFirstDigit_24 : decode cX2_takesFirstDigit 24 = .ok (.ireturn, 1) := by decide +kernel
theorem dX2_takesFirstDigit_25 : decode cX2_takesFirstDigit 25 = .ok (.aload_n 0, 1) := by decide +kernel
theorem dX2_takesFirstDigit_26 : decode cX2_takesFirstDigit 26 = .ok (.getfield 15, 3) := by decide +kernel
theorem dX2_takesFirstDigit_29 : decode cX2_takesFirstDigit 29 = .ok (.aload_n 0, 1) := by decide +kernel
theorem dX2_takesFirstDigit_30 : decode cX2_takesFirstDigit 30 = .ok (.getfield 28, 3) := by decide +kernel
theorem dX2_takesFirstDigit_33 : decode cX2_takesFirstDigit 33 = .ok (.aload_n 0, 1) := by decide +kernel
theorem dX2_takesFirstDigit_34 : decode cX2_takesFirstDigit 34 = .ok (.getfield 39, 3) := by decide +kernel
theorem dX2_takesFirstDigit_37 : decode cX2_takesFirstDigit 37 = .ok (.iastore, 1) := by decide +kernel
theorem dX2_takesFirstDigit_38 : decode cX2_takesFirstDigit 38 = .ok (.aload_n 0, 1) := by decide +kernel
theorem dX2_takesFirstDigit_39 : decode cX2_takesFirstDigit 39 = .ok (.getfield 18, 3) := by decide +kernel
theorem dX2_takesFirstDigit_42 : decode cX2_takesFirstDigit 42 = .ok (.aload_n 0, 1) := by decide +kernel
theorem dX2_takesFirstDigit_43 : decode cX2_takesFirstDigit 43 = .ok (.getfield 28, 3) := by decide +kernel
theorem dX2_takesFirstDigit_46 : decode cX2_takesFirstDigit 46 = .ok (.iload_n 1, 1) := by decide +kernel
theorem dX2_takesFirstDigit_47 : decode cX2_takesFirstDigit 47 = .ok (.iastore, 1) := by decide +kernel
theorem dX2_takesFirstDigit_48 : decode cX2_takesFirstDigit 48 = .ok (.aload_n 0, 1) := by decide +kernel
theorem dX2_takesFirstDigit_49 : decode cX2_takesFirstDigit 49 = .ok (.dup, 1) := by decide +kernel
theorem dX2_takesFirstDigit_50 : decode cX2_takesFirstDigit 50 = .ok (.getfield 28, 3) := by decide +kernel
theorem dX2_takesFirstDigit_53 : decode cX2_takesFirstDigit 53 = .ok (.iconst 1, 1) := by decide +kernel
theorem dX2_takesFirstDigit_54 : decode cX2_takesFirstDigit 54 = .ok (.iadd, 1) := by decide +kernel
theorem dX2_takesFirstDigit_55 : decode cX2_takesFirstDigit 55 = .ok (.putfield 28, 3) := by decide +kernel
theorem dX2_takesFirstDigit_58 : decode cX2_takesFirstDigit 58 = .ok (.aload_n 0, 1) := by decide +kernel
theorem dX2_takesFirstDigit_59 : decode cX2_takesFirstDigit 59 = .ok (.iconst 3, 1) := by decide +kernel
theorem dX2_takesFirstDigit_60 : decode cX2_takesFirstDigit 60 = .ok (.putfield 25, 3) := by decide +kernel
theorem dX2_takesFirstDigit_63 : decode cX2_takesFirstDigit 63 = .ok (.iconst 1, 1) := by decide +kernel
theorem dX2_takesFirstDigit_64 : decode cX2_takesFirstDigit 64 = .ok (.ireturn, 1) := by decide +kernel
set_option maxRecDepth 20000 in
theorem ggX2_takesInNumber_X3_isOutside : GoodIn wsX2_takesInNumber wsX3_isOutside := goodIn_r _ [6] (by decide +kernel) (by decide +kernel)
set_option maxRecDepth 20000 in
theorem gX2_takesInNumber_X3_isOutside_n42 : GoodIn wsX2_takesInNumber (wsX3_isOutside) := ggX2_takesInNumber_X3_isOutside
theorem dX2_takesInNumber_0 : decode cX2_takesInNumber 0 = .ok (.iload_n 1, 1) := by decide +kernel
theorem dX2_takesInNumber_1 : decode cX2_takesInNumber 1 = .ok (.bipush 44, 2) := by decide +kernel
theorem dX2_takesInNumber_3 : decode cX2_takesInNumber 3 = .ok (.if_icmp .eq 9, 3) := by decide +kernel
theorem dX2_takesInNumber_6 : decode cX2_takesInNumber 6 = .ok (.iload_n 1, 1) := by decide +kernel
theorem dX2_takesInNumber_7 : decode cX2_takesInNumber 7 = .ok (.bipush 59, 2) := by decide +kernel
theorem dX2_takesInNumber_9 : decode cX2_takesInNumber 9 = .ok (.if_icmp .ne 20, 3) := by decide +kernel
theorem dX2_takesInNumber_12 : decode cX2_takesInNumber 12 = .ok (.aload_n 0, 1) := by decide +kernel
theorem dX2_takesInNumber_13 : decode cX2_takesInNumber 13 = .ok (.iload_n 1, 1) := by decide +kernel
theorem dX2_takesInNumber_14 : decode cX2_takesInNumber 14 = .ok (.bipush 44, 2) := by decide +kernel
theorem dX2_takesInNumber_16 : decode cX2_takesInNumber 16 = .ok (.if_icmp .ne 7, 3) := by decide +kernel
theorem dX2_takesInNumber_19 : decode cX2_takesInNumber 19 = .ok (.iconst 2, 1) := by decide +kernel
theorem dX2_takesInNumber_20 : decode cX2_takesInNumber 20 = .ok (.goto 4, 3) := by decide +kernel
theorem dX2_takesInNumber_23 : decode cX2_takesInNumber 23 = .ok (.iconst 0, 1) := by decide +kernel
theorem dX2_takesInNumber_24 : decode cX2_takesInNumber 24 = .ok (.putfield 25, 3) := by decide +kernel
theorem dX2_takesInNumber_27 : decode cX2_takesInNumber 27 = .ok (.iconst 1, 1) := by decide +kernel
theorem dX2_takesInNumber_28 : decode cX2_takesInNumber 28 = .ok (.ireturn, 1) := by decide +kernel
theorem dX2_takesInNumber_29 : decode cX2_takesInNumber 29 = .ok (.aload_n 0, 1) := by decide +kernel
theorem dX2_takesInNumber_30 : decode cX2_takesInNumber 30 = .ok (.getfield 28, 3) := by decide +kernel
theorem dX2_takesInNumber_33 : decode cX2_takesInNumber 33 = .ok (.iconst 1, 1) := by decide +kernel
theorem dX2_takesInNumber_34 : decode cX2_takesInNumber 34 = .ok (.isub, 1) := by decide +kernel
theorem dX2_takesInNumber_35 : decode cX2_takesInNumber 35 = .ok (.istore_n 2, 1) := by decide +kernel
theorem dX2_takesInNumber_36 : decode cX2_takesInNumber 36 = .ok (.iload_n 2, 1) := by decide +kernel
theorem dX2_takesInNumber_37 : decode cX2_takesInNumber 37 = .ok (.iconst 0, 1) := by decide +kernel
theorem dX2_takesInNumber_38 : decode cX2_takesInNumber 38 = .ok (.bipush 59, 2) := by decide +kernel
theorem dX2_takesInNumber_40 : decode cX2_takesInNumber 40 = .ok (.invokestatic 42, 3) := by decide +kernel
theorem dX2_takesInNumber_43 : decode cX2_takesInNumber 43 = .ok (.ifCond .eq 5, 3) := by decide +kernel
theorem dX2_takesInNumber_46 : decode cX2_takesInNumber 46 = .ok (.iconst 0, 1) := by decide +kernel
theorem dX2_takesInNumber_47 : decode cX2_takesInNumber 47 = .ok (.ireturn, 1) := by decide +kernel
theorem dX2_takesInNumber_48 : decode cX2_takesInNumber 48 = .ok (.aload_n 0, 1) := by decide +kernel
theorem dX2_takesInNumber_49 : decode cX2_takesInNumber 49 = .ok (.getfield 18, 3) := by decide +kernel
theorem dX2_takesInNumber_52 : decode cX2_takesInNumber 52 = .ok (.iload_n 2, 1) := by decide +kernel
theorem dX2_takesInNumber_53 : decode cX2_takesInNumber 53 = .ok (.iaload, 1) := by decide +kernel
theorem dX2_takesInNumber_54 : decode cX2_takesInNumber 54 = .ok (.istore_n 3, 1) := by decide +kernel
theorem dX2_takesInNumber_55 : decode cX2_takesInNumber 55 = .ok (.iload_n 1, 1) := by decide +kernel
theorem dX2_takesInNumber_56 : decode cX2_takesInNumber 56 = .ok (.bipush 48, 2) := by decide +kernel
theorem dX2_takesInNumber_58 : decode cX2_takesInNumber 58 = .ok (.isub, 1) := by decide +kernel
theorem dX2_takesInNumber_59 : decode cX2_takesInNumber 59 = .ok (.istore 4, 2) := by decide +kernel
theorem dX2_takesInNumber_61 : decode cX2_takesInNumber 61 = .ok (.iload_n 3, 1) := by decide +kernel
theorem dX2_takesInNumber_62 : decode cX2_takesInNumber 62 = .ok (.bipush 10, 2) := by decide +kernel
theorem dX2_takesInNumber_64 : decode cX2_takesInNumber 64 = .ok (.imul, 1) := by decide +kernel
theorem dX2_takesInNumber_65 : decode cX2_takesInNumber 65 = .ok (.iload 4, 2) := by decide +kernel
theorem dX2_takesInNumber_67 : decode cX2_takesInNumber 67 = .ok (.iadd, 1) := by decide +kernel
theorem dX2_takesInNumber_68 : decode cX2_takesInNumber 68 = .ok (.istore 5, 2) := by decide +kernel
theorem dX2_takesInNumber_70 : decode cX2_takesInNumber 70 = .ok (.iload 4, 2) := by decide +kernel
theorem dX2_takesInNumber_72 : decode cX2_takesInNumber 72 = .ok (.iconst 0, 1) := by decide +kernel
theorem dX2_takesInNumber_73 : decode cX2_takesInNumber 73 = .ok (.bipush 9, 2) := by decide +kernel
theorem dX2_takesInNumber_75 : decode cX2_takesInNumber 75 = .ok (.invokestatic 42, 3) := by decide +kernel
theorem dX2_takesInNumber_78 : decode cX2_takesInNumber 78 = .ok (.ifCond .ne 15, 3) := by decide +kernel
theorem dX2_takesInNumber_81 : decode cX2_takesInNumber 81 = .ok (.iload_n 3, 1) := by decide +kernel
theorem dX2_takesInNumber_82 : decode cX2_takesInNumber 82 = .ok (.ifCond .eq 11, 3) := by decide +kernel
theorem dX2_takesInNumber_85 : decode cX2_takesInNumber 85 = .ok (.iload 5, 2) := by decide +kernel
theorem dX2_takesInNumber_87 : decode cX2_takesInNumber 87 = .ok (.sipush 4095, 3) := by decide +kernel
theorem dX2_takesInNumber_90 : decode cX2_takesInNumber 90 = .ok (.if_icmp .le 5, 3) := by decide +kernel
theorem dX2_takesInNumber_93 : decode cX2_takesInNumber 93 = .ok (.iconst 0, 1) := by decide +kernel
theorem dX2_takesInNumber_94 : decode cX2_takesInNumber 94 = .ok (.ireturn, 1) := by decide +kernel
theorem dX2_takesInNumber_95 : decode cX2_takesInNumber 95 = .ok (.aload_n 0, 1) := by decide +kernel
theorem dX2_takesInNumber_96 : decode cX2_takesInNumber 96 = .ok (.getfield 18, 3) := by decide +kernel
theorem dX2_takesInNumber_99 : decode cX2_takesInNumber 99 = .ok (.iload_n 2, 1) := by decide +kernel
theorem dX2_takesInNumber_100 : decode cX2_takesInNumber 100 = .ok (.iload 5, 2) := by decide +kernel
theorem dX2_takesInNumber_102 : decode cX2_takesInNumber 102 = .ok (.iastore, 1) := by decide +kernel
theorem dX2_takesInNumber_103 : decode cX2_takesInNumber 103 = .ok (.iconst 1, 1) := by decide +kernel
theorem dX2_takesInNumber_104 : decode cX2_takesInNumber 104 = .ok (.ireturn, 1) := by decide +kernel
theorem dX2_hashAfter_0 : decode cX2_hashAfter 0 = .ok (.ldc2_w 52, 3) := by decide +kernel
theorem dX2_hashAfter_3 : decode cX2_hashAfter 3 = .ok (.lload_n 1, 1) := by decide +kernel
theorem dX2_hashAfter_4 : decode cX2_hashAfter 4 = .ok (.lmul, 1) := by decide +kernel
theorem dX2_hashAfter_5 : decode cX2_hashAfter 5 = .ok (.aload_n 0, 1) := by decide +kernel
theorem dX2_hashAfter_6 : decode cX2_hashAfter 6 = .ok (.getfield 21, 3) := by decide +kernel
theorem dX2_hashAfter_9 : decode cX2_hashAfter 9 = .ok (.i2l, 1) := by decide +kernel
theorem dX2_hashAfter_10 : decode cX2_hashAfter 10 = .ok (.ladd, 1) := by decide +kernel
theorem dX2_hashAfter_11 : decode cX2_hashAfter 11 = .ok (.lstore_n 3, 1) := by decide +kernel
theorem dX2_hashAfter_12 : decode cX2_hashAfter 12 = .ok (.iconst 0, 1) := by decide +kernel
theorem dX2_hashAfter_13 : decode cX2_hashAfter 13 = .ok (.istore 5, 2) := by decide +kernel
theorem dX2_hashAfter_15 : decode cX2_hashAfter 15 = .ok (.iload 5, 2) := by decide +kernel
theorem dX2_hashAfter_17 : decode cX2_hashAfter 17 = .ok (.aload_n 0, 1) := by decide +kernel
theorem dX2_hashAfter_18 : decode cX2_hashAfter 18 = .ok (.getfield 21, 3) := by decide +kernel
theorem dX2_hashAfter_21 : decode cX2_hashAfter 21 = .ok (.if_icmp .ge 24, 3) := by decide +kernel
theorem dX2_hashAfter_24 : decode cX2_hashAfter 24 = .ok (.ldc2_w 52, 3) := by decide +kernel
theorem dX2_hashAfter_27 : decode cX2_hashAfter 27 = .ok (.lload_n 3, 1) := by decide +kernel
theorem dX2_hashAfter_28 : decode cX2_hashAfter 28 = .ok (.lmul, 1) := by decide +kernel
theorem dX2_hashAfter_29 : decode cX2_hashAfter 29 = .ok (.aload_n 0, 1) := by decide +kernel
theorem dX2_hashAfter_30 : decode cX2_hashAfter 30 = .ok (.getfield 9, 3) := by decide +kernel
theorem dX2_hashAfter_33 : decode cX2_hashAfter 33 = .ok (.iload 5, 2) := by decide +kernel
theorem dX2_hashAfter_35 : decode cX2_hashAfter 35 = .ok (.iaload, 1) := by decide +kernel
theorem dX2_hashAfter_36 : decode cX2_hashAfter 36 = .ok (.i2l, 1) := by decide +kernel
theorem dX2_hashAfter_37 : decode cX2_hashAfter 37 = .ok (.ladd, 1) := by decide +kernel
theorem dX2_hashAfter_38 : decode cX2_hashAfter 38 = .ok (.lstore_n 3, 1) := by decide +kernel
theorem dX2_hashAfter_39 : decode cX2_hashAfter 39 = .ok (.iinc 5 1, 3) := by decide +kernel
theorem dX2_hashAfter_42 : decode cX2_hashAfter 42 = .ok (.goto (-27), 3) := by decide +kernel
theorem dX2_hashAfter_45 : decode cX2_hashAfter 45 = .ok (.lload_n 3, 1) := by decide +kernel
theorem dX2_hashAfter_46 : decode cX2_hashAfter 46 = .ok (.lreturn, 1) := by decide +kernel
set_option maxRecDepth 20000 in
theorem ggX3_init_X1_init : GoodIn wsX3_init wsX1_init := goodIn_r _ [19, 20, 2, 3, 21, 22, 23, 24, 25, 26, 27, 28, 29, 43, 44, 45, 46, 47, 48, 49, 50, 51, 52, 53, 54, 55] (by decide +kernel) (by decide +kernel)
set_option maxRecDepth 20000 in
theorem gX3_init_X1_init : GoodIn wsX3_init (wsX1_init) := ggX3_init_X1_init
set_option maxRecDepth 20000 in
theorem ggX3_init_X0_init : GoodIn wsX3_init wsX0_init := goodIn_r _ [32, 33, 2, 3, 34, 35, 5, 6, 36, 18, 19, 20, 21, 22, 23, 24, 25, 26, 27, 28, 29, 60, 61, 62, 43, 44, 45, 46, 47, 48, 49, 50, 51, 52, 53, 54, 55] (by decide +kernel) (by decide +kernel)
set_option maxRecDepth 20000 in
theorem gX3_init_X0_init : GoodIn wsX3_init (wsX0_init) := ggX3_init_X0_init
set_option maxRecDepth 20000 in
theorem ggX3_init_X2_init : GoodIn wsX3_init wsX2_init := goodIn_r _ [38, 39, 2, 3, 21, 40, 41, 42, 63, 64, 65, 66, 67, 68, 69] (by decide +kernel) (by decide +kernel)
set_option maxRecDepth 20000 in
theorem gX3_init_X2_init_n28 : GoodIn wsX3_init (wsX2_init) := ggX3_init_X2_init
theorem dX3_init_0 : decode cX3_init 0 = .ok (.aload_n 0, 1) := by decide +kernel
theorem dX3_init_1 : decode cX3_init 1 = .ok (.invokespecial 1, 3) := by decide +kernel
theorem dX3_init_4 : decode cX3_init 4 = .ok (.aload_n 0, 1) := by decide +kernel
theorem dX3_init_5 : decode cX3_init 5 = .ok (.new 7, 3) := by decide +kernel
theorem dX3_init_8 : decode cX3_init 8 = .ok (.dup, 1) := by decide +kernel
theorem dX3_init_9 : decode cX3_init 9 = .ok (.invokespecial 9, 3) := by decide +kernel
theorem dX3_init_12 : decode cX3_init 12 = .ok (.putfield 10, 3) := by decide +kernel
theorem dX3_init_15 : decode cX3_init 15 = .ok (.aload_n 0, 1) := by decide +kernel
theorem dX3_init_16 : decode cX3_init 16 = .ok (.new 7, 3) := by decide +kernel
theorem dX3_init_19 : decode cX3_init 19 = .ok (.dup, 1) := by decide +kernel
theorem dX3_init_20 : decode cX3_init 20 = .ok (.invokespecial 9, 3) := by decide +kernel
theorem dX3_init_23 : decode cX3_init 23 = .ok (.putfield 16, 3) := by decide +kernel
theorem dX3_init_26 : decode cX3_init 26 = .ok (.aload_n 0, 1) := by decide +kernel
theorem dX3_init_27 : decode cX3_init 27 = .ok (.new 19, 3) := by decide +kernel
theorem dX3_init_30 : decode cX3_init 30 = .ok (.dup, 1) := by decide +kernel
theorem dX3_init_31 : decode cX3_init 31 = .ok (.invokespecial 21, 3) := by decide +kernel
theorem dX3_init_34 : decode cX3_init 34 = .ok (.putfield 22, 3) := by decide +kernel
theorem dX3_init_37 : decode cX3_init 37 = .ok (.aload_n 0, 1) := by decide +kernel
theorem dX3_init_38 : decode cX3_init 38 = .ok (.new 26, 3) := by decide +kernel
theorem dX3_init_41 : decode cX3_init 41 = .ok (.dup, 1) := by decide +kernel
theorem dX3_init_42 : decode cX3_init 42 = .ok (.invokespecial 28, 3) := by decide +kernel
theorem dX3_init_45 : decode cX3_init 45 = .ok (.putfield 29, 3) := by decide +kernel
theorem dX3_init_48 : decode cX3_init 48 = .ok (.return_, 1) := by decide +kernel
set_option maxRecDepth 20000 in
theorem ggX3_write_X3_needWord : GoodIn wsX3_write wsX3_needWord := goodIn_ca (goodIn_r _ [8, 9, 10, 11, 12, 7, 13] (by decide +kernel) (by decide +kernel)) (goodIn_sub (fun _ h => List.mem_cons_of_mem _ (List.mem_append_left _ (List.mem_append_right _ h))) (by decide +kernel))
set_option maxRecDepth 20000 in
theorem gX3_write_X3_needWord : GoodIn wsX3_write (va_wsS RX3 33 yX3_needWord wsX3_needWord) := goodIn_app (goodIn_of _ (by decide +kernel)) ggX3_write_X3_needWord
set_option maxRecDepth 20000 in
theorem ggX3_write_X3_needNumber : GoodIn wsX3_write wsX3_needNumber := goodIn_ca (goodIn_r _ [16, 17, 18, 11, 12, 7, 13] (by decide +kernel) (by decide +kernel)) (goodIn_sub (fun _ h => List.mem_cons_of_mem _ (List.mem_append_right _ h)) (by decide +kernel))
set_option maxRecDepth 20000 in
theorem gX3_write_X3_needNumber : GoodIn wsX3_write (va_wsS RX3 37 yX3_needNumber wsX3_needNumber) := goodIn_app (goodIn_of _ (by decide +kernel)) ggX3_write_X3_needNumber
set_option maxRecDepth 20000 in
theorem ggX3_write_X1_targetOf : GoodIn wsX3_write wsX1_targetOf := goodIn_r _ [23, 24, 25, 26, 27, 22, 28, 29, 30, 31, 32, 33, 34, 35, 36, 37, 38, 39, 40, 41, 42, 43, 44, 45, 46, 47, 48, 49, 50, 51, 52, 53, 54, 55, 56, 57, 58, 59, 60, 112, 113, 114, 115, 116, 117, 118, 119, 120, 121, 122, 123, 124] (by decide +kernel) (by decide +kernel)
set_option maxRecDepth 20000 in
theorem gX3_write_X1_targetOf : GoodIn wsX3_write (wsV RX3 40 RX1 yX1_targetOf wsX1_targetOf) := goodIn_app (goodIn_of _ (by decide +kernel)) ggX3_write_X1_targetOf
set_option maxRecDepth 20000 in
theorem ggX3_write_X0_keep : GoodIn wsX3_write wsX0_keep := goodIn_r _ [65, 66, 67, 68, 69, 70, 71, 64, 72, 73, 74, 75, 22, 76, 29, 77, 78, 79, 80, 34, 52, 24, 47, 81, 82, 35, 83, 84, 85, 86, 87, 125, 126, 127, 112, 113, 114, 115, 116, 117, 118, 119, 120, 121, 122, 123, 124] (by decide +kernel) (by decide +kernel)
set_option maxRecDepth 20000 in
theorem gX3_write_X0_keep : GoodIn wsX3_write (wsV RX3 51 RX0 yX0_keep wsX0_keep) := goodIn_app (goodIn_of _ (by decide +kernel)) ggX3_write_X0_keep
set_option maxRecDepth 20000 in
theorem ggX3_write_X1_place : GoodIn wsX3_write wsX1_place := goodIn_r _ [91, 29, 83, 84, 85, 87, 25, 26, 27, 22, 28, 30, 31, 32, 33, 34, 35, 36, 37, 38, 39, 40, 41, 42, 92, 93, 94, 95, 24, 96, 97, 98, 99, 100, 101, 102, 103, 104, 105, 106, 107, 81, 47, 52, 82, 86, 112, 113, 114, 115, 116, 117, 118, 119, 120, 121, 122, 123, 124] (by decide +kernel) (by decide +kernel)
set_option maxRecDepth 20000 in
theorem gX3_write_X1_place : GoodIn wsX3_write (wsV RX3 55 RX1 yX1_place wsX1_place) := goodIn_app (goodIn_of _ (by decide +kernel)) ggX3_write_X1_place
theorem dX3_write_0 : decode cX3_write 0 = .ok (.iload_n 1, 1) := by decide +kernel
theorem dX3_write_1 : decode cX3_write 1 = .ok (.invokestatic 33, 3) := by decide +kernel
theorem dX3_write_4 : decode cX3_write 4 = .ok (.iload_n 2, 1) := by decide +kernel
theorem dX3_write_5 : decode cX3_write 5 = .ok (.invokestatic 37, 3) := by decide +kernel
theorem dX3_write_8 : decode cX3_write 8 = .ok (.aload_n 0, 1) := by decide +kernel
theorem dX3_write_9 : decode cX3_write 9 = .ok (.getfield 10, 3) := by decide +kernel
theorem dX3_write_12 : decode cX3_write 12 = .ok (.iload_n 1, 1) := by decide +kernel
theorem dX3_write_13 : decode cX3_write 13 = .ok (.iload_n 2, 1) := by decide +kernel
theorem dX3_write_14 : decode cX3_write 14 = .ok (.invokevirtual 40, 3) := by decide +kernel
theorem dX3_write_17 : decode cX3_write 17 = .ok (.istore_n 3, 1) := by decide +kernel
theorem dX3_write_18 : decode cX3_write 18 = .ok (.iload_n 3, 1) := by decide +kernel
theorem dX3_write_19 : decode cX3_write 19 = .ok (.iconst (-1), 1) := by decide +kernel
theorem dX3_write_20 : decode cX3_write 20 = .ok (.if_icmp .ne 13, 3) := by decide +kernel
theorem dX3_write_23 : decode cX3_write 23 = .ok (.new 44, 3) := by decide +kernel
theorem dX3_write_26 : decode cX3_write 26 = .ok (.dup, 1) := by decide +kernel
theorem dX3_write_27 : decode cX3_write 27 = .ok (.ldc 46, 2) := by decide +kernel
theorem dX3_write_29 : decode cX3_write 29 = .ok (.invokespecial 48, 3) := by decide +kernel
theorem dX3_write_32 : decode cX3_write 32 = .ok (.athrow, 1) := by decide +kernel
theorem dX3_write_33 : decode cX3_write 33 = .ok (.aload_n 0, 1) := by decide +kernel
theorem dX3_write_34 : decode cX3_write 34 = .ok (.getfield 22, 3) := by decide +kernel
theorem dX3_write_37 : decode cX3_write 37 = .ok (.aload_n 0, 1) := by decide +kernel
theorem dX3_write_38 : decode cX3_write 38 = .ok (.getfield 10, 3) := by decide +kernel
theorem dX3_write_41 : decode cX3_write 41 = .ok (.invokevirtual 51, 3) := by decide +kernel
theorem dX3_write_44 : decode cX3_write 44 = .ok (.aload_n 0, 1) := by decide +kernel
theorem dX3_write_45 : decode cX3_write 45 = .ok (.getfield 10, 3) := by decide +kernel
theorem dX3_write_48 : decode cX3_write 48 = .ok (.iload_n 1, 1) := by decide +kernel
theorem dX3_write_49 : decode cX3_write 49 = .ok (.iload_n 2, 1) := by decide +kernel
theorem dX3_write_50 : decode cX3_write 50 = .ok (.iload_n 3, 1) := by decide +kernel
theorem dX3_write_51 : decode cX3_write 51 = .ok (.invokevirtual 55, 3) := by decide +kernel
theorem dX3_write_54 : decode cX3_write 54 = .ok (.ireturn, 1) := by decide +kernel
set_option maxRecDepth 20000 in
theorem ggX3_hammer_X3_needWord : GoodIn wsX3_hammer wsX3_needWord := goodIn_ca (goodIn_r _ [8, 9, 10, 11, 12, 7, 13] (by decide +kernel) (by decide +kernel)) (goodIn_sub (fun _ h => List.mem_cons_of_mem _ (List.mem_append_right _ h)) (by decide +kernel))
set_option maxRecDepth 20000 in
theorem gX3_hammer_X3_needWord : GoodIn wsX3_hammer (va_wsS RX3 33 yX3_needWord wsX3_needWord) := goodIn_app (goodIn_of _ (by decide +kernel)) ggX3_hammer_X3_needWord
set_option maxRecDepth 20000 in
theorem ggX3_hammer_X3_needNumber : GoodIn wsX3_hammer wsX3_needNumber := goodIn_ca (goodIn_r _ [16, 1, 2, 11, 12, 7, 13] (by decide +kernel) (by decide +kernel)) (goodIn_sub (fun _ h => List.mem_cons_of_mem _ (List.mem_append_left _ (List.mem_append_right _ h))) (by decide +kernel))
set_option maxRecDepth 20000 in
theorem gX3_hammer_X3_needNumber : GoodIn wsX3_hammer (va_wsS RX3 37 yX3_needNumber wsX3_needNumber) := goodIn_app (goodIn_of _ (by decide +kernel)) ggX3_hammer_X3_needNumber
set_option maxRecDepth 20000 in
theorem ggX3_hammer_X3_isOutside : GoodIn wsX3_hammer wsX3_isOutside := goodIn_r _ [13] (by decide +kernel) (by decide +kernel)
set_option maxRecDepth 20000 in
theorem gX3_hammer_X3_isOutside : GoodIn wsX3_hammer (va_wsS RX3 59 yX3_isOutside wsX3_isOutside) := goodIn_app (goodIn_of _ (by decide +kernel)) ggX3_hammer_X3_isOutside
set_option maxRecDepth 20000 in
theorem ggX3_hammer_X0_keep : GoodIn wsX3_hammer wsX0_keep := goodIn_r _ [21, 22, 23, 24, 25, 26, 27, 20, 28, 29, 30, 31, 32, 33, 34, 35, 36, 37, 38, 39, 40, 41, 42, 43, 44, 45, 46, 47, 48, 49, 50, 114, 115, 116, 117, 118, 119, 120, 121, 122, 123, 124, 125, 126, 127, 128, 129] (by decide +kernel) (by decide +kernel)
set_option maxRecDepth 20000 in
theorem gX3_hammer_X0_keep : GoodIn wsX3_hammer (wsV RX3 51 RX0 yX0_keep wsX0_keep) := goodIn_app (goodIn_of _ (by decide +kernel)) ggX3_hammer_X0_keep
set_option maxRecDepth 20000 in
theorem ggX3_hammer_X1_placeInTurns : GoodIn wsX3_hammer wsX1_placeInTurns := goodIn_r _ [54, 55, 56, 57, 32, 58, 41, 59, 60, 61, 62, 34, 63, 64, 65, 66, 39, 45, 67, 68, 69, 70, 71, 72, 73, 74, 75, 76, 77, 42, 78, 79, 80, 81, 40, 82, 83, 84, 85, 86, 87, 88, 89, 90, 91, 92, 93, 46, 47, 48, 50, 94, 95, 96, 97, 98, 99, 100, 101, 102, 103, 104, 105, 106, 107, 108, 109, 43, 44, 49, 117, 118, 119, 120, 121, 122, 123, 124, 125, 126, 127, 128, 129] (by decide +kernel) (by decide +kernel)
set_option maxRecDepth 20000 in
theorem gX3_hammer_X1_placeInTurns : GoodIn wsX3_hammer (wsV RX3 68 RX1 yX1_placeInTurns wsX1_placeInTurns) := goodIn_app (goodIn_of _ (by decide +kernel)) ggX3_hammer_X1_placeInTurns
theorem dX3_hammer_0 : decode cX3_hammer 0 = .ok (.iload_n 1, 1) := by decide +kernel
theorem dX3_hammer_1 : decode cX3_hammer 1 = .ok (.invokestatic 33, 3) := by decide +kernel
theorem dX3_hammer_4 : decode cX3_hammer 4 = .ok (.iload_n 2, 1) := by decide +kernel
theorem dX3_hammer_5 : decode cX3_hammer 5 = .ok (.invokestatic 37, 3) := by decide +kernel
theorem dX3_hammer_8 : decode cX3_hammer 8 = .ok (.iload_n 3, 1) := by decide +kernel
theorem dX3_hammer_9 : decode cX3_hammer 9 = .ok (.iconst 1, 1) := by decide +kernel
theorem dX3_hammer_10 : decode cX3_hammer 10 = .ok (.sipush 500, 3) := by decide +kernel
theorem dX3_hammer_13 : decode cX3_hammer 13 = .ok (.invokestatic 59, 3) := by decide +kernel
theorem dX3_hammer_16 : decode cX3_hammer 16 = .ok (.ifCond .eq 13, 3) := by decide +kernel
theorem dX3_hammer_19 : decode cX3_hammer 19 = .ok (.new 63, 3) := by decide +kernel
theorem dX3_hammer_22 : decode cX3_hammer 22 = .ok (.dup, 1) := by decide +kernel
theorem dX3_hammer_23 : decode cX3_hammer 23 = .ok (.ldc 65, 2) := by decide +kernel
theorem dX3_hammer_25 : decode cX3_hammer 25 = .ok (.invokespecial 67, 3) := by decide +kernel
theorem dX3_hammer_28 : decode cX3_hammer 28 = .ok (.athrow, 1) := by decide +kernel
theorem dX3_hammer_29 : decode cX3_hammer 29 = .ok (.aload_n 0, 1) := by decide +kernel
theorem dX3_hammer_30 : decode cX3_hammer 30 = .ok (.getfield 22, 3) := by decide +kernel
theorem dX3_hammer_33 : decode cX3_hammer 33 = .ok (.aload_n 0, 1) := by decide +kernel
theorem dX3_hammer_34 : decode cX3_hammer 34 = .ok (.getfield 10, 3) := by decide +kernel
theorem dX3_hammer_37 : decode cX3_hammer 37 = .ok (.invokevirtual 51, 3) := by decide +kernel
theorem dX3_hammer_40 : decode cX3_hammer 40 = .ok (.aload_n 0, 1) := by decide +kernel
theorem dX3_hammer_41 : decode cX3_hammer 41 = .ok (.getfield 10, 3) := by decide +kernel
theorem dX3_hammer_44 : decode cX3_hammer 44 = .ok (.iload_n 1, 1) := by decide +kernel
theorem dX3_hammer_45 : decode cX3_hammer 45 = .ok (.iload_n 2, 1) := by decide +kernel
theorem dX3_hammer_46 : decode cX3_hammer 46 = .ok (.iload_n 3, 1) := by decide +kernel
theorem dX3_hammer_47 : decode cX3_hammer 47 = .ok (.invokevirtual 68, 3) := by decide +kernel
theorem dX3_hammer_50 : decode cX3_hammer 50 = .ok (.ireturn, 1) := by decide +kernel
set_option maxRecDepth 20000 in
theorem ggX3_exchange_X3_needWord : GoodIn wsX3_exchange wsX3_needWord := goodIn_ca (goodIn_r _ [7, 8, 9, 10, 11, 6, 12] (by decide +kernel) (by decide +kernel)) (goodIn_sub (fun _ h => List.mem_cons_of_mem _ (List.mem_append_right _ h)) (by decide +kernel))
set_option maxRecDepth 20000 in
theorem gX3_exchange_X3_needWord : GoodIn wsX3_exchange (va_wsS RX3 33 yX3_needWord wsX3_needWord) := goodIn_app (goodIn_of _ (by decide +kernel)) ggX3_exchange_X3_needWord
set_option maxRecDepth 20000 in
theorem ggX3_exchange_X0_keep : GoodIn wsX3_exchange wsX0_keep := goodIn_r _ [17, 18, 19, 20, 21, 22, 23, 16, 24, 25, 26, 27, 28, 29, 30, 31, 32, 33, 34, 35, 36, 37, 38, 39, 40, 41, 42, 43, 44, 45, 46, 68, 69, 70, 55, 56, 57, 58, 59, 60, 61, 62, 63, 64, 65, 66, 67] (by decide +kernel) (by decide +kernel)
set_option maxRecDepth 20000 in
theorem gX3_exchange_X0_keep : GoodIn wsX3_exchange (wsV RX3 51 RX0 yX0_keep wsX0_keep) := goodIn_app (goodIn_of _ (by decide +kernel)) ggX3_exchange_X0_keep
set_option maxRecDepth 20000 in
theorem ggX3_exchange_X1_swapSlots : GoodIn wsX3_exchange wsX1_swapSlots := goodIn_r _ [50, 37, 36, 38, 55, 56, 57, 58, 59, 60, 61, 62, 63, 64, 65, 66, 67] (by decide +kernel) (by decide +kernel)
set_option maxRecDepth 20000 in
theorem gX3_exchange_X1_swapSlots : GoodIn wsX3_exchange (wsV RX3 71 RX1 yX1_swapSlots wsX1_swapSlots) := goodIn_app (goodIn_of _ (by decide +kernel)) ggX3_exchange_X1_swapSlots
theorem dX3_exchange_0 : decode cX3_exchange 0 = .ok (.iload_n 1, 1) := by decide +kernel
theorem dX3_exchange_1 : decode cX3_exchange 1 = .ok (.invokestatic 33, 3) := by decide +kernel
theorem dX3_exchange_4 : decode cX3_exchange 4 = .ok (.iload_n 2, 1) := by decide +kernel
theorem dX3_exchange_5 : decode cX3_exchange 5 = .ok (.invokestatic 33, 3) := by decide +kernel
theorem dX3_exchange_8 : decode cX3_exchange 8 = .ok (.aload_n 0, 1) := by decide +kernel
theorem dX3_exchange_9 : decode cX3_exchange 9 = .ok (.getfield 22, 3) := by decide +kernel
theorem dX3_exchange_12 : decode cX3_exchange 12 = .ok (.aload_n 0, 1) := by decide +kernel
theorem dX3_exchange_13 : decode cX3_exchange 13 = .ok (.getfield 10, 3) := by decide +kernel
theorem dX3_exchange_16 : decode cX3_exchange 16 = .ok (.invokevirtual 51, 3) := by decide +kernel
theorem dX3_exchange_19 : decode cX3_exchange 19 = .ok (.aload_n 0, 1) := by decide +kernel
theorem dX3_exchange_20 : decode cX3_exchange 20 = .ok (.getfield 10, 3) := by decide +kernel
theorem dX3_exchange_23 : decode cX3_exchange 23 = .ok (.iload_n 1, 1) := by decide +kernel
theorem dX3_exchange_24 : decode cX3_exchange 24 = .ok (.iload_n 2, 1) := by decide +kernel
theorem dX3_exchange_25 : decode cX3_exchange 25 = .ok (.invokevirtual 71, 3) := by decide +kernel
theorem dX3_exchange_28 : decode cX3_exchange 28 = .ok (.aload_n 0, 1) := by decide +kernel
theorem dX3_exchange_29 : decode cX3_exchange 29 = .ok (.getfield 10, 3) := by decide +kernel
theorem dX3_exchange_32 : decode cX3_exchange 32 = .ok (.getfield 75, 3) := by decide +kernel
theorem dX3_exchange_35 : decode cX3_exchange 35 = .ok (.iload_n 1, 1) := by decide +kernel
theorem dX3_exchange_36 : decode cX3_exchange 36 = .ok (.iaload, 1) := by decide +kernel
theorem dX3_exchange_37 : decode cX3_exchange 37 = .ok (.ireturn, 1) := by decide +kernel
set_option maxRecDepth 20000 in
theorem ggX3_wear_X3_needSlot : GoodIn wsX3_wear wsX3_needSlot := goodIn_ca (goodIn_r _ [12, 13, 14, 15, 16, 11, 17] (by decide +kernel) (by decide +kernel)) (goodIn_sub (fun _ h => List.mem_cons_of_mem _ (List.mem_append_right _ h)) (by decide +kernel))
set_option maxRecDepth 20000 in
theorem gX3_wear_X3_needSlot : GoodIn wsX3_wear (va_wsS RX3 79 yX3_needSlot wsX3_needSlot) := goodIn_app (goodIn_of _ (by decide +kernel)) ggX3_wear_X3_needSlot
set_option maxRecDepth 20000 in
theorem ggX3_wear_X3_needCell : GoodIn wsX3_wear wsX3_needCell := goodIn_ca (goodIn_r _ [20, 13, 14, 15, 16, 11, 17] (by decide +kernel) (by decide +kernel)) (goodIn_sub (fun _ h => List.mem_cons_of_mem _ (List.mem_append_right _ h)) (by decide +kernel))
set_option maxRecDepth 20000 in
theorem gX3_wear_X3_needCell : GoodIn wsX3_wear (va_wsS RX3 82 yX3_needCell wsX3_needCell) := goodIn_app (goodIn_of _ (by decide +kernel)) ggX3_wear_X3_needCell
set_option maxRecDepth 20000 in
theorem ggX3_wear_X3_isOutside : GoodIn wsX3_wear wsX3_isOutside := goodIn_r _ [17] (by decide +kernel) (by decide +kernel)
set_option maxRecDepth 20000 in
theorem gX3_wear_X3_isOutside : GoodIn wsX3_wear (va_wsS RX3 59 yX3_isOutside wsX3_isOutside) := goodIn_app (goodIn_of _ (by decide +kernel)) ggX3_wear_X3_isOutside
set_option maxRecDepth 20000 in
theorem ggX3_wear_X1_wornAt : GoodIn wsX3_wear wsX1_wornAt := goodIn_r _ [25, 26, 63, 64, 65, 66, 67, 68, 69, 70, 71, 72, 73, 74, 75] (by decide +kernel) (by decide +kernel)
set_option maxRecDepth 20000 in
theorem gX3_wear_X1_wornAt : GoodIn wsX3_wear (wsV RX3 87 RX1 yX1_wornAt wsX1_wornAt) := goodIn_app (goodIn_of _ (by decide +kernel)) ggX3_wear_X1_wornAt
set_option maxRecDepth 20000 in
theorem ggX3_wear_X0_keep : GoodIn wsX3_wear wsX0_keep := goodIn_r _ [31, 32, 33, 34, 35, 36, 37, 30, 38, 39, 40, 41, 24, 42, 43, 44, 45, 46, 47, 26, 48, 49, 50, 51, 52, 53, 54, 55, 56, 57, 58, 76, 77, 78, 63, 64, 65, 66, 67, 68, 69, 70, 71, 72, 73, 74, 75] (by decide +kernel) (by decide +kernel)
set_option maxRecDepth 20000 in
theorem gX3_wear_X0_keep : GoodIn wsX3_wear (wsV RX3 51 RX0 yX0_keep wsX0_keep) := goodIn_app (goodIn_of _ (by decide +kernel)) ggX3_wear_X0_keep
theorem dX3_wear_0 : decode cX3_wear 0 = .ok (.iload_n 1, 1) := by decide +kernel
theorem dX3_wear_1 : decode cX3_wear 1 = .ok (.invokestatic 79, 3) := by decide +kernel
theorem dX3_wear_4 : decode cX3_wear 4 = .ok (.iload_n 2, 1) := by decide +kernel
theorem dX3_wear_5 : decode cX3_wear 5 = .ok (.invokestatic 82, 3) := by decide +kernel
theorem dX3_wear_8 : decode cX3_wear 8 = .ok (.iload_n 3, 1) := by decide +kernel
theorem dX3_wear_9 : decode cX3_wear 9 = .ok (.iconst 1, 1) := by decide +kernel
theorem dX3_wear_10 : decode cX3_wear 10 = .ok (.sipush 999, 3) := by decide +kernel
theorem dX3_wear_13 : decode cX3_wear 13 = .ok (.invokestatic 59, 3) := by decide +kernel
theorem dX3_wear_16 : decode cX3_wear 16 = .ok (.ifCond .eq 13, 3) := by decide +kernel
theorem dX3_wear_19 : decode cX3_wear 19 = .ok (.new 63, 3) := by decide +kernel
theorem dX3_wear_22 : decode cX3_wear 22 = .ok (.dup, 1) := by decide +kernel
theorem dX3_wear_23 : decode cX3_wear 23 = .ok (.ldc 85, 2) := by decide +kernel
theorem dX3_wear_25 : decode cX3_wear 25 = .ok (.invokespecial 67, 3) := by decide +kernel
theorem dX3_wear_28 : decode cX3_wear 28 = .ok (.athrow, 1) := by decide +kernel
theorem dX3_wear_29 : decode cX3_wear 29 = .ok (.aload_n 0, 1) := by decide +kernel
theorem dX3_wear_30 : decode cX3_wear 30 = .ok (.getfield 10, 3) := by decide +kernel
theorem dX3_wear_33 : decode cX3_wear 33 = .ok (.iload_n 1, 1) := by decide +kernel
theorem dX3_wear_34 : decode cX3_wear 34 = .ok (.iload_n 2, 1) := by decide +kernel
theorem dX3_wear_35 : decode cX3_wear 35 = .ok (.invokevirtual 87, 3) := by decide +kernel
theorem dX3_wear_38 : decode cX3_wear 38 = .ok (.iload_n 3, 1) := by decide +kernel
theorem dX3_wear_39 : decode cX3_wear 39 = .ok (.iadd, 1) := by decide +kernel
theorem dX3_wear_40 : decode cX3_wear 40 = .ok (.istore 4, 2) := by decide +kernel
theorem dX3_wear_42 : decode cX3_wear 42 = .ok (.iload 4, 2) := by decide +kernel
theorem dX3_wear_44 : decode cX3_wear 44 = .ok (.ldc 90, 2) := by decide +kernel
theorem dX3_wear_46 : decode cX3_wear 46 = .ok (.if_icmp .le 13, 3) := by decide +kernel
theorem dX3_wear_49 : decode cX3_wear 49 = .ok (.new 44, 3) := by decide +kernel
theorem dX3_wear_52 : decode cX3_wear 52 = .ok (.dup, 1) := by decide +kernel
theorem dX3_wear_53 : decode cX3_wear 53 = .ok (.ldc 91, 2) := by decide +kernel
theorem dX3_wear_55 : decode cX3_wear 55 = .ok (.invokespecial 48, 3) := by decide +kernel
theorem dX3_wear_58 : decode cX3_wear 58 = .ok (.athrow, 1) := by decide +kernel
theorem dX3_wear_59 : decode cX3_wear 59 = .ok (.aload_n 0, 1) := by decide +kernel
theorem dX3_wear_60 : decode cX3_wear 60 = .ok (.getfield 22, 3) := by decide +kernel
theorem dX3_wear_63 : decode cX3_wear 63 = .ok (.aload_n 0, 1) := by decide +kernel
theorem dX3_wear_64 : decode cX3_wear 64 = .ok (.getfield 10, 3) := by decide +kernel
theorem dX3_wear_67 : decode cX3_wear 67 = .ok (.invokevirtual 51, 3) := by decide +kernel
theorem dX3_wear_70 : decode cX3_wear 70 = .ok (.aload_n 0, 1) := by decide +kernel
theorem dX3_wear_71 : decode cX3_wear 71 = .ok (.getfield 10, 3) := by decide +kernel
theorem dX3_wear_74 : decode cX3_wear 74 = .ok (.getfield 93, 3) := by decide +kernel
theorem dX3_wear_77 : decode cX3_wear 77 = .ok (.iload_n 1, 1) := by decide +kernel
theorem dX3_wear_78 : decode cX3_wear 78 = .ok (.bipush 13, 2) := by decide +kernel
theorem dX3_wear_80 : decode cX3_wear 80 = .ok (.imul, 1) := by decide +kernel
theorem dX3_wear_81 : decode cX3_wear 81 = .ok (.iload_n 2, 1) := by decide +kernel
theorem dX3_wear_82 : decode cX3_wear 82 = .ok (.iadd, 1) := by decide +kernel
theorem dX3_wear_83 : decode cX3_wear 83 = .ok (.iload 4, 2) := by decide +kernel
theorem dX3_wear_85 : decode cX3_wear 85 = .ok (.iastore, 1) := by decide +kernel
theorem dX3_wear_86 : decode cX3_wear 86 = .ok (.iload 4, 2) := by decide +kernel
theorem dX3_wear_88 : decode cX3_wear 88 = .ok (.ireturn, 1) := by decide +kernel
set_option maxRecDepth 20000 in
theorem ggX3_set_X3_needSetting : GoodIn wsX3_set wsX3_needSetting := goodIn_ca (goodIn_r _ [9, 10, 11, 12, 13, 8, 14] (by decide +kernel) (by decide +kernel)) (goodIn_sub (fun _ h => List.mem_cons_of_mem _ (List.mem_append_right _ h)) (by decide +kernel))
set_option maxRecDepth 20000 in
theorem gX3_set_X3_needSetting : GoodIn wsX3_set (va_wsS RX3 96 yX3_needSetting wsX3_needSetting) := goodIn_app (goodIn_of _ (by decide +kernel)) ggX3_set_X3_needSetting
set_option maxRecDepth 20000 in
theorem ggX3_set_X3_isOutside : GoodIn wsX3_set wsX3_isOutside := goodIn_r _ [14] (by decide +kernel) (by decide +kernel)
set_option maxRecDepth 20000 in
theorem gX3_set_X3_isOutside : GoodIn wsX3_set (va_wsS RX3 59 yX3_isOutside wsX3_isOutside) := goodIn_app (goodIn_of _ (by decide +kernel)) ggX3_set_X3_isOutside
set_option maxRecDepth 20000 in
theorem ggX3_set_X0_keep : GoodIn wsX3_set wsX0_keep := goodIn_r _ [19, 20, 21, 22, 23, 24, 25, 18, 26, 27, 28, 29, 30, 31, 32, 33, 34, 35, 36, 37, 38, 39, 40, 41, 42, 43, 44, 45, 46, 47, 48, 66, 67, 68, 53, 54, 55, 56, 57, 58, 59, 60, 61, 62, 63, 64, 65] (by decide +kernel) (by decide +kernel)
set_option maxRecDepth 20000 in
theorem gX3_set_X0_keep : GoodIn wsX3_set (wsV RX3 51 RX0 yX0_keep wsX0_keep) := goodIn_app (goodIn_of _ (by decide +kernel)) ggX3_set_X0_keep
theorem dX3_set_0 : decode cX3_set 0 = .ok (.iload_n 1, 1) := by decide +kernel
theorem dX3_set_1 : decode cX3_set 1 = .ok (.invokestatic 96, 3) := by decide +kernel
theorem dX3_set_4 : decode cX3_set 4 = .ok (.iload_n 1, 1) := by decide +kernel
theorem dX3_set_5 : decode cX3_set 5 = .ok (.ifCond .ne 14, 3) := by decide +kernel
theorem dX3_set_8 : decode cX3_set 8 = .ok (.iload_n 2, 1) := by decide +kernel
theorem dX3_set_9 : decode cX3_set 9 = .ok (.iconst 1, 1) := by decide +kernel
theorem dX3_set_10 : decode cX3_set 10 = .ok (.sipush 999, 3) := by decide +kernel
theorem dX3_set_13 : decode cX3_set 13 = .ok (.invokestatic 59, 3) := by decide +kernel
theorem dX3_set_16 : decode cX3_set 16 = .ok (.goto 10, 3) := by decide +kernel
theorem dX3_set_19 : decode cX3_set 19 = .ok (.iload_n 2, 1) := by decide +kernel
theorem dX3_set_20 : decode cX3_set 20 = .ok (.iconst 0, 1) := by decide +kernel
theorem dX3_set_21 : decode cX3_set 21 = .ok (.bipush 99, 2) := by decide +kernel
theorem dX3_set_23 : decode cX3_set 23 = .ok (.invokestatic 59, 3) := by decide +kernel
theorem dX3_set_26 : decode cX3_set 26 = .ok (.istore_n 3, 1) := by decide +kernel
theorem dX3_set_27 : decode cX3_set 27 = .ok (.iload_n 3, 1) := by decide +kernel
theorem dX3_set_28 : decode cX3_set 28 = .ok (.ifCond .eq 13, 3) := by decide +kernel
theorem dX3_set_31 : decode cX3_set 31 = .ok (.new 63, 3) := by decide +kernel
theorem dX3_set_34 : decode cX3_set 34 = .ok (.dup, 1) := by decide +kernel
theorem dX3_set_35 : decode cX3_set 35 = .ok (.ldc 99, 2) := by decide +kernel
theorem dX3_set_37 : decode cX3_set 37 = .ok (.invokespecial 67, 3) := by decide +kernel
theorem dX3_set_40 : decode cX3_set 40 = .ok (.athrow, 1) := by decide +kernel
theorem dX3_set_41 : decode cX3_set 41 = .ok (.aload_n 0, 1) := by decide +kernel
theorem dX3_set_42 : decode cX3_set 42 = .ok (.getfield 22, 3) := by decide +kernel
theorem dX3_set_45 : decode cX3_set 45 = .ok (.aload_n 0, 1) := by decide +kernel
theorem dX3_set_46 : decode cX3_set 46 = .ok (.getfield 10, 3) := by decide +kernel
theorem dX3_set_49 : decode cX3_set 49 = .ok (.invokevirtual 51, 3) := by decide +kernel
theorem dX3_set_52 : decode cX3_set 52 = .ok (.aload_n 0, 1) := by decide +kernel
theorem dX3_set_53 : decode cX3_set 53 = .ok (.getfield 10, 3) := by decide +kernel
theorem dX3_set_56 : decode cX3_set 56 = .ok (.getfield 101, 3) := by decide +kernel
theorem dX3_set_59 : decode cX3_set 59 = .ok (.iload_n 1, 1) := by decide +kernel
theorem dX3_set_60 : decode cX3_set 60 = .ok (.iaload, 1) := by decide +kernel
theorem dX3_set_61 : decode cX3_set 61 = .ok (.istore 4, 2) := by decide +kernel
theorem dX3_set_63 : decode cX3_set 63 = .ok (.aload_n 0, 1) := by decide +kernel
theorem dX3_set_64 : decode cX3_set 64 = .ok (.getfield 10, 3) := by decide +kernel
theorem dX3_set_67 : decode cX3_set 67 = .ok (.getfield 101, 3) := by decide +kernel
theorem dX3_set_70 : decode cX3_set 70 = .ok (.iload_n 1, 1) := by decide +kernel
theorem dX3_set_71 : decode cX3_set 71 = .ok (.iload_n 2, 1) := by decide +kernel
theorem dX3_set_72 : decode cX3_set 72 = .ok (.iastore, 1) := by decide +kernel
theorem dX3_set_73 : decode cX3_set 73 = .ok (.iload 4, 2) := by decide +kernel
theorem dX3_set_75 : decode cX3_set 75 = .ok (.ireturn, 1) := by decide +kernel
set_option maxRecDepth 20000 in
theorem ggX3_append_X3_isOutside : GoodIn wsX3_append wsX3_isOutside := goodIn_r _ [10] (by decide +kernel) (by decide +kernel)
set_option maxRecDepth 20000 in
theorem gX3_append_X3_isOutside : GoodIn wsX3_append (va_wsS RX3 59 yX3_isOutside wsX3_isOutside) := goodIn_app (goodIn_of _ (by decide +kernel)) ggX3_append_X3_isOutside
set_option maxRecDepth 20000 in
theorem ggX3_append_X2_add : GoodIn wsX3_append wsX2_add := goodIn_r _ [15, 16, 17, 22, 23, 24, 25, 26, 27, 28] (by decide +kernel) (by decide +kernel)
set_option maxRecDepth 20000 in
theorem gX3_append_X2_add : GoodIn wsX3_append (wsV RX3 112 RX2 yX2_add wsX2_add) := goodIn_app (goodIn_of _ (by decide +kernel)) ggX3_append_X2_add
theorem dX3_append_0 : decode cX3_append 0 = .ok (.iload_n 1, 1) := by decide +kernel
theorem dX3_append_1 : decode cX3_append 1 = .ok (.bipush 33, 2) := by decide +kernel
theorem dX3_append_3 : decode cX3_append 3 = .ok (.bipush 126, 2) := by decide +kernel
theorem dX3_append_5 : decode cX3_append 5 = .ok (.invokestatic 59, 3) := by decide +kernel
theorem dX3_append_8 : decode cX3_append 8 = .ok (.ifCond .eq 13, 3) := by decide +kernel
theorem dX3_append_11 : decode cX3_append 11 = .ok (.new 63, 3) := by decide +kernel
theorem dX3_append_14 : decode cX3_append 14 = .ok (.dup, 1) := by decide +kernel
theorem dX3_append_15 : decode cX3_append 15 = .ok (.ldc 104, 2) := by decide +kernel
theorem dX3_append_17 : decode cX3_append 17 = .ok (.invokespecial 67, 3) := by decide +kernel
theorem dX3_append_20 : decode cX3_append 20 = .ok (.athrow, 1) := by decide +kernel
theorem dX3_append_21 : decode cX3_append 21 = .ok (.aload_n 0, 1) := by decide +kernel
theorem dX3_append_22 : decode cX3_append 22 = .ok (.getfield 29, 3) := by decide +kernel
theorem dX3_append_25 : decode cX3_append 25 = .ok (.getfield 106, 3) := by decide +kernel
theorem dX3_append_28 : decode cX3_append 28 = .ok (.bipush 60, 2) := by decide +kernel
theorem dX3_append_30 : decode cX3_append 30 = .ok (.if_icmp .lt 13, 3) := by decide +kernel
theorem dX3_append_33 : decode cX3_append 33 = .ok (.new 44, 3) := by decide +kernel
theorem dX3_append_36 : decode cX3_append 36 = .ok (.dup, 1) := by decide +kernel
theorem dX3_append_37 : decode cX3_append 37 = .ok (.ldc 110, 2) := by decide +kernel
theorem dX3_append_39 : decode cX3_append 39 = .ok (.invokespecial 48, 3) := by decide +kernel
theorem dX3_append_42 : decode cX3_append 42 = .ok (.athrow, 1) := by decide +kernel
theorem dX3_append_43 : decode cX3_append 43 = .ok (.aload_n 0, 1) := by decide +kernel
theorem dX3_append_44 : decode cX3_append 44 = .ok (.getfield 29, 3) := by decide +kernel
theorem dX3_append_47 : decode cX3_append 47 = .ok (.iload_n 1, 1) := by decide +kernel
theorem dX3_append_48 : decode cX3_append 48 = .ok (.invokevirtual 112, 3) := by decide +kernel
theorem dX3_append_51 : decode cX3_append 51 = .ok (.aload_n 0, 1) := by decide +kernel
theorem dX3_append_52 : decode cX3_append 52 = .ok (.getfield 29, 3) := by decide +kernel
theorem dX3_append_55 : decode cX3_append 55 = .ok (.getfield 106, 3) := by decide +kernel
theorem dX3_append_58 : decode cX3_append 58 = .ok (.ireturn, 1) := by decide +kernel
theorem dX3_clearBuffer_0 : decode cX3_clearBuffer 0 = .ok (.aload_n 0, 1) := by decide +kernel
theorem dX3_clearBuffer_1 : decode cX3_clearBuffer 1 = .ok (.getfield 29, 3) := by decide +kernel
theorem dX3_clearBuffer_4 : decode cX3_clearBuffer 4 = .ok (.getfield 106, 3) := by decide +kernel
theorem dX3_clearBuffer_7 : decode cX3_clearBuffer 7 = .ok (.istore_n 1, 1) := by decide +kernel
theorem dX3_clearBuffer_8 : decode cX3_clearBuffer 8 = .ok (.aload_n 0, 1) := by decide +kernel
theorem dX3_clearBuffer_9 : decode cX3_clearBuffer 9 = .ok (.getfield 29, 3) := by decide +kernel
theorem dX3_clearBuffer_12 : decode cX3_clearBuffer 12 = .ok (.iconst 0, 1) := by decide +kernel
theorem dX3_clearBuffer_13 : decode cX3_clearBuffer 13 = .ok (.putfield 106, 3) := by decide +kernel
theorem dX3_clearBuffer_16 : decode cX3_clearBuffer 16 = .ok (.iload_n 1, 1) := by decide +kernel
theorem dX3_clearBuffer_17 : decode cX3_clearBuffer 17 = .ok (.ireturn, 1) := by decide +kernel
set_option maxRecDepth 20000 in
theorem ggX3_firstError_X2_parse : GoodIn wsX3_firstError wsX2_parse := goodIn_r _ [6, 7, 8, 9, 10, 11, 12, 13, 5, 14, 15, 16, 17, 18, 19, 20, 21, 22, 23, 24, 25, 26, 27, 28, 33, 34, 35, 36, 37, 38, 39] (by decide +kernel) (by decide +kernel)
set_option maxRecDepth 20000 in
theorem gX3_firstError_X2_parse : GoodIn wsX3_firstError (wsV RX3 115 RX2 yX2_parse wsX2_parse) := goodIn_app (goodIn_of _ (by decide +kernel)) ggX3_firstError_X2_parse
theorem dX3_firstError_0 : decode cX3_firstError 0 = .ok (.aload_n 0, 1) := by decide +kernel
theorem dX3_firstError_1 : decode cX3_firstError 1 = .ok (.getfield 29, 3) := by decide +kernel
theorem dX3_firstError_4 : decode cX3_firstError 4 = .ok (.invokevirtual 115, 3) := by decide +kernel
theorem dX3_firstError_7 : decode cX3_firstError 7 = .ok (.ireturn, 1) := by decide +kernel
set_option maxRecDepth 20000 in
theorem ggX3_writeAll_X2_isComplete : GoodIn wsX3_writeAll wsX2_isComplete := goodIn_r _ [11, 12, 13, 14, 15, 16, 10, 17, 18, 19, 20, 21, 22, 23, 24, 25, 26, 27, 28, 29, 30, 31, 32, 33, 34, 35, 36, 37, 138, 139, 140, 141, 142, 143, 144] (by decide +kernel) (by decide +kernel)
set_option maxRecDepth 20000 in
theorem gX3_writeAll_X2_isComplete : GoodIn wsX3_writeAll (wsV RX3 119 RX2 yX2_isComplete wsX2_isComplete) := goodIn_app (goodIn_of _ (by decide +kernel)) ggX3_writeAll_X2_isComplete
set_option maxRecDepth 20000 in
theorem ggX3_writeAll_X0_keep : GoodIn wsX3_writeAll wsX0_keep := goodIn_r _ [42, 43, 44, 45, 46, 47, 48, 41, 49, 50, 51, 52, 53, 54, 55, 56, 57, 58, 59, 60, 61, 62, 63, 64, 65, 66, 67, 68, 69, 70, 71, 145, 146, 147, 148, 149, 150, 151, 152, 153, 154, 155, 156, 157, 158, 159, 160] (by decide +kernel) (by decide +kernel)
set_option maxRecDepth 20000 in
theorem gX3_writeAll_X0_keep : GoodIn wsX3_writeAll (wsV RX3 51 RX0 yX0_keep wsX0_keep) := goodIn_app (goodIn_of _ (by decide +kernel)) ggX3_writeAll_X0_keep
set_option maxRecDepth 20000 in
theorem ggX3_writeAll_X3_placeParsed : GoodIn wsX3_writeAll wsX3_placeParsed := goodIn_r _ [75, 3, 76, 77, 78, 5, 79, 80, 81, 53, 82, 62, 83, 84, 85, 86, 55, 87, 88, 89, 90, 60, 66, 91, 92, 93, 94, 95, 96, 97, 98, 99, 100, 101, 63, 102, 103, 104, 105, 61, 106, 107, 108, 109, 110, 111, 112, 113, 114, 115, 116, 117, 67, 68, 69, 71, 118, 119, 120, 121, 122, 123, 124, 125, 126, 127, 128, 129, 130, 131, 132, 133, 64, 65, 70, 134, 135, 136, 137, 138, 139, 140, 141, 142, 143, 144, 148, 149, 150, 151, 152, 153, 154, 155, 156, 157, 158, 159, 160] (by decide +kernel) (by decide +kernel)
set_option maxRecDepth 20000 in
theorem gX3_writeAll_X3_placeParsed : GoodIn wsX3_writeAll (wsV RX3 125 RX3 yX3_placeParsed wsX3_placeParsed) := goodIn_app (goodIn_of _ (by decide +kernel)) ggX3_writeAll_X3_placeParsed
theorem dX3_writeAll_0 : decode cX3_writeAll 0 = .ok (.aload_n 0, 1) := by decide +kernel
theorem dX3_writeAll_1 : decode cX3_writeAll 1 = .ok (.getfield 29, 3) := by decide +kernel
theorem dX3_writeAll_4 : decode cX3_writeAll 4 = .ok (.invokevirtual 119, 3) := by decide +kernel
theorem dX3_writeAll_7 : decode cX3_writeAll 7 = .ok (.ifCond .ne 13, 3) := by decide +kernel
theorem dX3_writeAll_10 : decode cX3_writeAll 10 = .ok (.new 63, 3) := by decide +kernel
theorem dX3_writeAll_13 : decode cX3_writeAll 13 = .ok (.dup, 1) := by decide +kernel
theorem dX3_writeAll_14 : decode cX3_writeAll 14 = .ok (.ldc 123, 2) := by decide +kernel
theorem dX3_writeAll_16 : decode cX3_writeAll 16 = .ok (.invokespecial 67, 3) := by decide +kernel
theorem dX3_writeAll_19 : decode cX3_writeAll 19 = .ok (.athrow, 1) := by decide +kernel
theorem dX3_writeAll_20 : decode cX3_writeAll 20 = .ok (.aload_n 0, 1) := by decide +kernel
theorem dX3_writeAll_21 : decode cX3_writeAll 21 = .ok (.getfield 22, 3) := by decide +kernel
theorem dX3_writeAll_24 : decode cX3_writeAll 24 = .ok (.aload_n 0, 1) := by decide +kernel
theorem dX3_writeAll_25 : decode cX3_writeAll 25 = .ok (.getfield 10, 3) := by decide +kernel
theorem dX3_writeAll_28 : decode cX3_writeAll 28 = .ok (.invokevirtual 51, 3) := by decide +kernel
theorem dX3_writeAll_31 : decode cX3_writeAll 31 = .ok (.aload_n 0, 1) := by decide +kernel
theorem dX3_writeAll_32 : decode cX3_writeAll 32 = .ok (.getfield 29, 3) := by decide +kernel
theorem dX3_writeAll_35 : decode cX3_writeAll 35 = .ok (.iconst 0, 1) := by decide +kernel
theorem dX3_writeAll_36 : decode cX3_writeAll 36 = .ok (.putfield 106, 3) := by decide +kernel
theorem dX3_writeAll_39 : decode cX3_writeAll 39 = .ok (.aload_n 0, 1) := by decide +kernel
theorem dX3_writeAll_40 : decode cX3_writeAll 40 = .ok (.invokevirtual 125, 3) := by decide +kernel
theorem dX3_writeAll_43 : decode cX3_writeAll 43 = .ok (.ireturn, 1) := by decide +kernel
set_option maxRecDepth 20000 in
theorem ggX3_undo_X0_giveBack : GoodIn wsX3_undo wsX0_giveBack := goodIn_r _ [10, 11, 12, 13, 14, 15, 9, 16, 17, 18, 19, 20, 21, 22, 23, 24, 25, 26, 27, 28, 29, 30, 31, 32, 33, 34, 35, 36, 37, 38, 39, 44, 45, 46, 47, 48, 49, 50, 51, 52, 53, 54, 55, 56, 57, 58, 59] (by decide +kernel) (by decide +kernel)
set_option maxRecDepth 20000 in
theorem gX3_undo_X0_giveBack : GoodIn wsX3_undo (wsV RX3 133 RX0 yX0_giveBack wsX0_giveBack) := goodIn_app (goodIn_of _ (by decide +kernel)) ggX3_undo_X0_giveBack
theorem dX3_undo_0 : decode cX3_undo 0 = .ok (.aload_n 0, 1) := by decide +kernel
theorem dX3_undo_1 : decode cX3_undo 1 = .ok (.getfield 22, 3) := by decide +kernel
theorem dX3_undo_4 : decode cX3_undo 4 = .ok (.getfield 128, 3) := by decide +kernel
theorem dX3_undo_7 : decode cX3_undo 7 = .ok (.ifCond .ne 13, 3) := by decide +kernel
theorem dX3_undo_10 : decode cX3_undo 10 = .ok (.new 44, 3) := by decide +kernel
theorem dX3_undo_13 : decode cX3_undo 13 = .ok (.dup, 1) := by decide +kernel
theorem dX3_undo_14 : decode cX3_undo 14 = .ok (.ldc 131, 2) := by decide +kernel
theorem dX3_undo_16 : decode cX3_undo 16 = .ok (.invokespecial 48, 3) := by decide +kernel
theorem dX3_undo_19 : decode cX3_undo 19 = .ok (.athrow, 1) := by decide +kernel
theorem dX3_undo_20 : decode cX3_undo 20 = .ok (.aload_n 0, 1) := by decide +kernel
theorem dX3_undo_21 : decode cX3_undo 21 = .ok (.getfield 22, 3) := by decide +kernel
theorem dX3_undo_24 : decode cX3_undo 24 = .ok (.aload_n 0, 1) := by decide +kernel
theorem dX3_undo_25 : decode cX3_undo 25 = .ok (.getfield 10, 3) := by decide +kernel
theorem dX3_undo_28 : decode cX3_undo 28 = .ok (.invokevirtual 133, 3) := by decide +kernel
theorem dX3_undo_31 : decode cX3_undo 31 = .ok (.aload_n 0, 1) := by decide +kernel
theorem dX3_undo_32 : decode cX3_undo 32 = .ok (.getfield 22, 3) := by decide +kernel
theorem dX3_undo_35 : decode cX3_undo 35 = .ok (.getfield 128, 3) := by decide +kernel
theorem dX3_undo_38 : decode cX3_undo 38 = .ok (.ireturn, 1) := by decide +kernel
set_option maxRecDepth 20000 in
theorem ggX3_read_X3_needWord : GoodIn wsX3_read wsX3_needWord := goodIn_ca (goodIn_r _ [5, 6, 7, 8, 9, 4, 10] (by decide +kernel) (by decide +kernel)) (goodIn_sub (fun _ h => List.mem_cons_of_mem _ (List.mem_append_right _ h)) (by decide +kernel))
set_option maxRecDepth 20000 in
theorem gX3_read_X3_needWord : GoodIn wsX3_read (va_wsS RX3 33 yX3_needWord wsX3_needWord) := goodIn_app (goodIn_of _ (by decide +kernel)) ggX3_read_X3_needWord
set_option maxRecDepth 20000 in
theorem ggX3_read_X1_numberOf : GoodIn wsX3_read wsX1_numberOf := goodIn_r _ [15, 16, 17, 18, 19, 14, 20, 21, 26, 27, 28, 29, 30, 31, 32, 33, 34, 35, 36, 37, 38] (by decide +kernel) (by decide +kernel)
set_option maxRecDepth 20000 in
theorem gX3_read_X1_numberOf : GoodIn wsX3_read (wsV RX3 136 RX1 yX1_numberOf wsX1_numberOf) := goodIn_app (goodIn_of _ (by decide +kernel)) ggX3_read_X1_numberOf
theorem dX3_read_0 : decode cX3_read 0 = .ok (.iload_n 1, 1) := by decide +kernel
theorem dX3_read_1 : decode cX3_read 1 = .ok (.invokestatic 33, 3) := by decide +kernel
theorem dX3_read_4 : decode cX3_read 4 = .ok (.aload_n 0, 1) := by decide +kernel
theorem dX3_read_5 : decode cX3_read 5 = .ok (.getfield 10, 3) := by decide +kernel
theorem dX3_read_8 : decode cX3_read 8 = .ok (.iload_n 1, 1) := by decide +kernel
theorem dX3_read_9 : decode cX3_read 9 = .ok (.invokevirtual 136, 3) := by decide +kernel
theorem dX3_read_12 : decode cX3_read 12 = .ok (.ireturn, 1) := by decide +kernel
set_option maxRecDepth 20000 in
theorem ggX3_word_X3_needWord : GoodIn wsX3_word wsX3_needWord := goodIn_ca (goodIn_r _ [9, 10, 11, 12, 13, 8, 14] (by decide +kernel) (by decide +kernel)) (goodIn_sub (fun _ h => List.mem_cons_of_mem _ (List.mem_append_left _ (List.mem_append_right _ h))) (by decide +kernel))
set_option maxRecDepth 20000 in
theorem gX3_word_X3_needWord : GoodIn wsX3_word (va_wsS RX3 33 yX3_needWord wsX3_needWord) := goodIn_app (goodIn_of _ (by decide +kernel)) ggX3_word_X3_needWord
set_option maxRecDepth 20000 in
theorem ggX3_word_X3_needWhat : GoodIn wsX3_word wsX3_needWhat := goodIn_ca (goodIn_r _ [17, 18, 19, 12, 13, 8, 14] (by decide +kernel) (by decide +kernel)) (goodIn_sub (fun _ h => List.mem_cons_of_mem _ (List.mem_append_right _ h)) (by decide +kernel))
set_option maxRecDepth 20000 in
theorem gX3_word_X3_needWhat : GoodIn wsX3_word (va_wsS RX3 140 yX3_needWhat wsX3_needWhat) := goodIn_app (goodIn_of _ (by decide +kernel)) ggX3_word_X3_needWhat
set_option maxRecDepth 20000 in
theorem ggX3_word_X1_isHot : GoodIn wsX3_word wsX1_isHot := goodIn_r _ [24, 25, 26, 31, 32, 33, 34, 35, 36, 37, 38, 39, 40, 41, 42, 43] (by decide +kernel) (by decide +kernel)
set_option maxRecDepth 20000 in
theorem gX3_word_X1_isHot : GoodIn wsX3_word (wsV RX3 152 RX1 yX1_isHot wsX1_isHot) := goodIn_app (goodIn_of _ (by decide +kernel)) ggX3_word_X1_isHot
theorem dX3_word_0 : decode cX3_word 0 = .ok (.iload_n 1, 1) := by decide +kernel
theorem dX3_word_1 : decode cX3_word 1 = .ok (.invokestatic 33, 3) := by decide +kernel
theorem dX3_word_4 : decode cX3_word 4 = .ok (.iload_n 2, 1) := by decide +kernel
theorem dX3_word_5 : decode cX3_word 5 = .ok (.iconst 5, 1) := by decide +kernel
theorem dX3_word_6 : decode cX3_word 6 = .ok (.invokestatic 140, 3) := by decide +kernel
theorem dX3_word_9 : decode cX3_word 9 = .ok (.iload_n 2, 1) := by decide +kernel
theorem dX3_word_10 : decode cX3_word 10 = .ok (.tableswitch 70 0 3 #[30, 40, 50, 60], 30) := by decide +kernel
theorem dX3_word_40 : decode cX3_word 40 = .ok (.aload_n 0, 1) := by decide +kernel
theorem dX3_word_41 : decode cX3_word 41 = .ok (.getfield 10, 3) := by decide +kernel
theorem dX3_word_44 : decode cX3_word 44 = .ok (.getfield 75, 3) := by decide +kernel
theorem dX3_word_47 : decode cX3_word 47 = .ok (.iload_n 1, 1) := by decide +kernel
theorem dX3_word_48 : decode cX3_word 48 = .ok (.iaload, 1) := by decide +kernel
theorem dX3_word_49 : decode cX3_word 49 = .ok (.ireturn, 1) := by decide +kernel
theorem dX3_word_50 : decode cX3_word 50 = .ok (.aload_n 0, 1) := by decide +kernel
theorem dX3_word_51 : decode cX3_word 51 = .ok (.getfield 10, 3) := by decide +kernel
theorem dX3_word_54 : decode cX3_word 54 = .ok (.getfield 143, 3) := by decide +kernel
theorem dX3_word_57 : decode cX3_word 57 = .ok (.iload_n 1, 1) := by decide +kernel
theorem dX3_word_58 : decode cX3_word 58 = .ok (.iaload, 1) := by decide +kernel
theorem dX3_word_59 : decode cX3_word 59 = .ok (.ireturn, 1) := by decide +kernel
theorem dX3_word_60 : decode cX3_word 60 = .ok (.aload_n 0, 1) := by decide +kernel
theorem dX3_word_61 : decode cX3_word 61 = .ok (.getfield 10, 3) := by decide +kernel
theorem dX3_word_64 : decode cX3_word 64 = .ok (.getfield 146, 3) := by decide +kernel
theorem dX3_word_67 : decode cX3_word 67 = .ok (.iload_n 1, 1) := by decide +kernel
theorem dX3_word_68 : decode cX3_word 68 = .ok (.iaload, 1) := by decide +kernel
theorem dX3_word_69 : decode cX3_word 69 = .ok (.ireturn, 1) := by decide +kernel
theorem dX3_word_70 : decode cX3_word 70 = .ok (.aload_n 0, 1) := by decide +kernel
theorem dX3_word_71 : decode cX3_word 71 = .ok (.getfield 10, 3) := by decide +kernel
theorem dX3_word_74 : decode cX3_word 74 = .ok (.getfield 149, 3) := by decide +kernel
theorem dX3_word_77 : decode cX3_word 77 = .ok (.iload_n 1, 1) := by decide +kernel
theorem dX3_word_78 : decode cX3_word 78 = .ok (.iaload, 1) := by decide +kernel
theorem dX3_word_79 : decode cX3_word 79 = .ok (.ireturn, 1) := by decide +kernel
theorem dX3_word_80 : decode cX3_word 80 = .ok (.aload_n 0, 1) := by decide +kernel
theorem dX3_word_81 : decode cX3_word 81 = .ok (.getfield 10, 3) := by decide +kernel
theorem dX3_word_84 : decode cX3_word 84 = .ok (.iload_n 1, 1) := by decide +kernel
theorem dX3_word_85 : decode cX3_word 85 = .ok (.invokevirtual 152, 3) := by decide +kernel
theorem dX3_word_88 : decode cX3_word 88 = .ok (.ifCond .eq 7, 3) := by decide +kernel
theorem dX3_word_91 : decode cX3_word 91 = .ok (.iconst 1, 1) := by decide +kernel
theorem dX3_word_92 : decode cX3_word 92 = .ok (.goto 4, 3) := by decide +kernel
theorem dX3_word_95 : decode cX3_word 95 = .ok (.iconst 0, 1) := by decide +kernel
theorem dX3_word_96 : decode cX3_word 96 = .ok (.ireturn, 1) := by decide +kernel
set_option maxRecDepth 20000 in
theorem ggX3_slot_X3_needSlot : GoodIn wsX3_slot wsX3_needSlot := goodIn_ca (goodIn_r _ [7, 8, 9, 10, 11, 6, 12] (by decide +kernel) (by decide +kernel)) (goodIn_sub (fun _ h => List.mem_cons_of_mem _ (List.mem_append_left _ (List.mem_append_right _ h))) (by decide +kernel))
set_option maxRecDepth 20000 in
theorem gX3_slot_X3_needSlot : GoodIn wsX3_slot (va_wsS RX3 79 yX3_needSlot wsX3_needSlot) := goodIn_app (goodIn_of _ (by decide +kernel)) ggX3_slot_X3_needSlot
set_option maxRecDepth 20000 in
theorem ggX3_slot_X3_needWhat : GoodIn wsX3_slot wsX3_needWhat := goodIn_ca (goodIn_r _ [15, 16, 17, 10, 11, 6, 12] (by decide +kernel) (by decide +kernel)) (goodIn_sub (fun _ h => List.mem_cons_of_mem _ (List.mem_append_right _ h)) (by decide +kernel))
set_option maxRecDepth 20000 in
theorem gX3_slot_X3_needWhat : GoodIn wsX3_slot (va_wsS RX3 140 yX3_needWhat wsX3_needWhat) := goodIn_app (goodIn_of _ (by decide +kernel)) ggX3_slot_X3_needWhat
set_option maxRecDepth 20000 in
theorem ggX3_slot_X1_wornTogether : GoodIn wsX3_slot wsX1_wornTogether := goodIn_r _ [22, 23, 41, 42, 43, 44, 45, 46, 47, 48, 49, 50, 51, 52, 53] (by decide +kernel) (by decide +kernel)
set_option maxRecDepth 20000 in
theorem gX3_slot_X1_wornTogether : GoodIn wsX3_slot (wsV RX3 162 RX1 yX1_wornTogether wsX1_wornTogether) := goodIn_app (goodIn_of _ (by decide +kernel)) ggX3_slot_X1_wornTogether
set_option maxRecDepth 20000 in
theorem ggX3_slot_X1_stuckIn : GoodIn wsX3_slot wsX1_stuckIn := goodIn_r _ [27, 23, 28, 41, 42, 43, 44, 45, 46, 47, 48, 49, 50, 51, 52, 53] (by decide +kernel) (by decide +kernel)
set_option maxRecDepth 20000 in
theorem gX3_slot_X1_stuckIn : GoodIn wsX3_slot (wsV RX3 165 RX1 yX1_stuckIn wsX1_stuckIn) := goodIn_app (goodIn_of _ (by decide +kernel)) ggX3_slot_X1_stuckIn
set_option maxRecDepth 20000 in
theorem ggX3_slot_X1_mostWorn : GoodIn wsX3_slot wsX1_mostWorn := goodIn_r _ [32, 23, 33, 34, 35, 36, 41, 42, 43, 44, 45, 46, 47, 48, 49, 50, 51, 52, 53] (by decide +kernel) (by decide +kernel)
set_option maxRecDepth 20000 in
theorem gX3_slot_X1_mostWorn : GoodIn wsX3_slot (wsV RX3 168 RX1 yX1_mostWorn wsX1_mostWorn) := goodIn_app (goodIn_of _ (by decide +kernel)) ggX3_slot_X1_mostWorn
theorem dX3_slot_0 : decode cX3_slot 0 = .ok (.iload_n 1, 1) := by decide +kernel
theorem dX3_slot_1 : decode cX3_slot 1 = .ok (.invokestatic 79, 3) := by decide +kernel
theorem dX3_slot_4 : decode cX3_slot 4 = .ok (.iload_n 2, 1) := by decide +kernel
theorem dX3_slot_5 : decode cX3_slot 5 = .ok (.bipush 6, 2) := by decide +kernel
theorem dX3_slot_7 : decode cX3_slot 7 = .ok (.invokestatic 140, 3) := by decide +kernel
theorem dX3_slot_10 : decode cX3_slot 10 = .ok (.iload_n 2, 1) := by decide +kernel
theorem dX3_slot_11 : decode cX3_slot 11 = .ok (.tableswitch 97 0 4 #[33, 43, 57, 79, 88], 33) := by decide +kernel
theorem dX3_slot_44 : decode cX3_slot 44 = .ok (.aload_n 0, 1) := by decide +kernel
theorem dX3_slot_45 : decode cX3_slot 45 = .ok (.getfield 10, 3) := by decide +kernel
theorem dX3_slot_48 : decode cX3_slot 48 = .ok (.getfield 156, 3) := by decide +kernel
theorem dX3_slot_51 : decode cX3_slot 51 = .ok (.iload_n 1, 1) := by decide +kernel
theorem dX3_slot_52 : decode cX3_slot 52 = .ok (.iaload, 1) := by decide +kernel
theorem dX3_slot_53 : decode cX3_slot 53 = .ok (.ireturn, 1) := by decide +kernel
theorem dX3_slot_54 : decode cX3_slot 54 = .ok (.aload_n 0, 1) := by decide +kernel
theorem dX3_slot_55 : decode cX3_slot 55 = .ok (.getfield 10, 3) := by decide +kernel
theorem dX3_slot_58 : decode cX3_slot 58 = .ok (.getfield 159, 3) := by decide +kernel
theorem dX3_slot_61 : decode cX3_slot 61 = .ok (.iload_n 1, 1) := by decide +kernel
theorem dX3_slot_62 : decode cX3_slot 62 = .ok (.iaload, 1) := by decide +kernel
theorem dX3_slot_63 : decode cX3_slot 63 = .ok (.sipush 4095, 3) := by decide +kernel
theorem dX3_slot_66 : decode cX3_slot 66 = .ok (.iand, 1) := by decide +kernel
theorem dX3_slot_67 : decode cX3_slot 67 = .ok (.ireturn, 1) := by decide +kernel
theorem dX3_slot_68 : decode cX3_slot 68 = .ok (.aload_n 0, 1) := by decide +kernel
theorem dX3_slot_69 : decode cX3_slot 69 = .ok (.getfield 10, 3) := by decide +kernel
theorem dX3_slot_72 : decode cX3_slot 72 = .ok (.getfield 159, 3) := by decide +kernel
theorem dX3_slot_75 : decode cX3_slot 75 = .ok (.iload_n 1, 1) := by decide +kernel
theorem dX3_slot_76 : decode cX3_slot 76 = .ok (.iaload, 1) := by decide +kernel
theorem dX3_slot_77 : decode cX3_slot 77 = .ok (.sipush 4096, 3) := by decide +kernel
theorem dX3_slot_80 : decode cX3_slot 80 = .ok (.iand, 1) := by decide +kernel
theorem dX3_slot_81 : decode cX3_slot 81 = .ok (.ifCond .eq 7, 3) := by decide +kernel
theorem dX3_slot_84 : decode cX3_slot 84 = .ok (.iconst 1, 1) := by decide +kernel
theorem dX3_slot_85 : decode cX3_slot 85 = .ok (.goto 4, 3) := by decide +kernel
theorem dX3_slot_88 : decode cX3_slot 88 = .ok (.iconst 0, 1) := by decide +kernel
theorem dX3_slot_89 : decode cX3_slot 89 = .ok (.ireturn, 1) := by decide +kernel
theorem dX3_slot_90 : decode cX3_slot 90 = .ok (.aload_n 0, 1) := by decide +kernel
theorem dX3_slot_91 : decode cX3_slot 91 = .ok (.getfield 10, 3) := by decide +kernel
theorem dX3_slot_94 : decode cX3_slot 94 = .ok (.iload_n 1, 1) := by decide +kernel
theorem dX3_slot_95 : decode cX3_slot 95 = .ok (.invokevirtual 162, 3) := by decide +kernel
theorem dX3_slot_98 : decode cX3_slot 98 = .ok (.ireturn, 1) := by decide +kernel
theorem dX3_slot_99 : decode cX3_slot 99 = .ok (.aload_n 0, 1) := by decide +kernel
theorem dX3_slot_100 : decode cX3_slot 100 = .ok (.getfield 10, 3) := by decide +kernel
theorem dX3_slot_103 : decode cX3_slot 103 = .ok (.iload_n 1, 1) := by decide +kernel
theorem dX3_slot_104 : decode cX3_slot 104 = .ok (.invokevirtual 165, 3) := by decide +kernel
theorem dX3_slot_107 : decode cX3_slot 107 = .ok (.ireturn, 1) := by decide +kernel
theorem dX3_slot_108 : decode cX3_slot 108 = .ok (.aload_n 0, 1) := by decide +kernel
theorem dX3_slot_109 : decode cX3_slot 109 = .ok (.getfield 10, 3) := by decide +kernel
theorem dX3_slot_112 : decode cX3_slot 112 = .ok (.iload_n 1, 1) := by decide +kernel
theorem dX3_slot_113 : decode cX3_slot 113 = .ok (.invokevirtual 168, 3) := by decide +kernel
theorem dX3_slot_116 : decode cX3_slot 116 = .ok (.ireturn, 1) := by decide +kernel
set_option maxRecDepth 20000 in
theorem ggX3_wearOf_X3_needSlot : GoodIn wsX3_wearOf wsX3_needSlot := goodIn_ca (goodIn_r _ [5, 6, 7, 8, 9, 4, 10] (by decide +kernel) (by decide +kernel)) (goodIn_sub (fun _ h => List.mem_cons_of_mem _ (List.mem_append_right _ h)) (by decide +kernel))
set_option maxRecDepth 20000 in
theorem gX3_wearOf_X3_needSlot : GoodIn wsX3_wearOf (va_wsS RX3 79 yX3_needSlot wsX3_needSlot) := goodIn_app (goodIn_of _ (by decide +kernel)) ggX3_wearOf_X3_needSlot
set_option maxRecDepth 20000 in
theorem ggX3_wearOf_X3_needCell : GoodIn wsX3_wearOf wsX3_needCell := goodIn_ca (goodIn_r _ [13, 6, 7, 8, 9, 4, 10] (by decide +kernel) (by decide +kernel)) (goodIn_sub (fun _ h => List.mem_cons_of_mem _ (List.mem_append_right _ h)) (by decide +kernel))
set_option maxRecDepth 20000 in
theorem gX3_wearOf_X3_needCell : GoodIn wsX3_wearOf (va_wsS RX3 82 yX3_needCell wsX3_needCell) := goodIn_app (goodIn_of _ (by decide +kernel)) ggX3_wearOf_X3_needCell
set_option maxRecDepth 20000 in
theorem ggX3_wearOf_X1_wornAt : GoodIn wsX3_wearOf wsX1_wornAt := goodIn_r _ [18, 19, 24, 25, 26, 27, 28, 29, 30, 31, 32, 33, 34, 35, 36] (by decide +kernel) (by decide +kernel)
set_option maxRecDepth 20000 in
theorem gX3_wearOf_X1_wornAt : GoodIn wsX3_wearOf (wsV RX3 87 RX1 yX1_wornAt wsX1_wornAt) := goodIn_app (goodIn_of _ (by decide +kernel)) ggX3_wearOf_X1_wornAt
theorem dX3_wearOf_0 : decode cX3_wearOf 0 = .ok (.iload_n 1, 1) := by decide +kernel
theorem dX3_wearOf_1 : decode cX3_wearOf 1 = .ok (.invokestatic 79, 3) := by decide +kernel
theorem dX3_wearOf_4 : decode cX3_wearOf 4 = .ok (.iload_n 2, 1) := by decide +kernel
theorem dX3_wearOf_5 : decode cX3_wearOf 5 = .ok (.invokestatic 82, 3) := by decide +kernel
theorem dX3_wearOf_8 : decode cX3_wearOf 8 = .ok (.aload_n 0, 1) := by decide +kernel
theorem dX3_wearOf_9 : decode cX3_wearOf 9 = .ok (.getfield 10, 3) := by decide +kernel
theorem dX3_wearOf_12 : decode cX3_wearOf 12 = .ok (.iload_n 1, 1) := by decide +kernel
theorem dX3_wearOf_13 : decode cX3_wearOf 13 = .ok (.iload_n 2, 1) := by decide +kernel
theorem dX3_wearOf_14 : decode cX3_wearOf 14 = .ok (.invokevirtual 87, 3) := by decide +kernel
theorem dX3_wearOf_17 : decode cX3_wearOf 17 = .ok (.ireturn, 1) := by decide +kernel
set_option maxRecDepth 20000 in
theorem ggX3_count_X3_needWhat : GoodIn wsX3_count wsX3_needWhat := goodIn_ca (goodIn_r _ [12, 13, 14, 15, 16, 11, 17] (by decide +kernel) (by decide +kernel)) (goodIn_sub (fun _ h => List.mem_cons_of_mem _ (List.mem_append_right _ h)) (by decide +kernel))
set_option maxRecDepth 20000 in
theorem gX3_count_X3_needWhat : GoodIn wsX3_count (va_wsS RX3 140 yX3_needWhat wsX3_needWhat) := goodIn_app (goodIn_of _ (by decide +kernel)) ggX3_count_X3_needWhat
set_option maxRecDepth 20000 in
theorem ggX3_count_X1_stuckCells : GoodIn wsX3_count wsX1_stuckCells := goodIn_r _ [22, 23, 24, 25, 21, 26, 27, 28, 29, 30, 31, 32, 33, 34, 35, 76, 77, 78, 79, 80, 81, 82, 83, 84, 85, 86, 87, 88] (by decide +kernel) (by decide +kernel)
set_option maxRecDepth 20000 in
theorem gX3_count_X1_stuckCells : GoodIn wsX3_count (wsV RX3 186 RX1 yX1_stuckCells wsX1_stuckCells) := goodIn_app (goodIn_of _ (by decide +kernel)) ggX3_count_X1_stuckCells
set_option maxRecDepth 20000 in
theorem ggX3_count_X1_leastWornFree : GoodIn wsX3_count wsX1_leastWornFree := goodIn_r _ [39, 40, 41, 42, 43, 21, 44, 45, 46, 47, 48, 27, 76, 77, 78, 79, 80, 81, 82, 83, 84, 85, 86, 87, 88] (by decide +kernel) (by decide +kernel)
set_option maxRecDepth 20000 in
theorem gX3_count_X1_leastWornFree : GoodIn wsX3_count (wsV RX3 189 RX1 yX1_leastWornFree wsX1_leastWornFree) := goodIn_app (goodIn_of _ (by decide +kernel)) ggX3_count_X1_leastWornFree
set_option maxRecDepth 20000 in
theorem ggX3_count_X1_hotWords : GoodIn wsX3_count wsX1_hotWords := goodIn_r _ [52, 53, 54, 55, 21, 56, 28, 57, 76, 77, 78, 79, 80, 81, 82, 83, 84, 85, 86, 87, 88] (by decide +kernel) (by decide +kernel)
set_option maxRecDepth 20000 in
theorem gX3_count_X1_hotWords : GoodIn wsX3_count (wsV RX3 192 RX1 yX1_hotWords wsX1_hotWords) := goodIn_app (goodIn_of _ (by decide +kernel)) ggX3_count_X1_hotWords
set_option maxRecDepth 20000 in
theorem ggX3_count_X1_sumOfWords : GoodIn wsX3_count wsX1_sumOfWords := goodIn_r _ [61, 62, 63, 64, 21, 65, 66, 67, 68, 69, 70, 71, 76, 77, 78, 79, 80, 81, 82, 83, 84, 85, 86, 87, 88] (by decide +kernel) (by decide +kernel)
set_option maxRecDepth 20000 in
theorem gX3_count_X1_sumOfWords : GoodIn wsX3_count (wsV RX3 195 RX1 yX1_sumOfWords wsX1_sumOfWords) := goodIn_app (goodIn_of _ (by decide +kernel)) ggX3_count_X1_sumOfWords
theorem dX3_count_0 : decode cX3_count 0 = .ok (.iload_n 1, 1) := by decide +kernel
theorem dX3_count_1 : decode cX3_count 1 = .ok (.bipush 10, 2) := by decide +kernel
theorem dX3_count_3 : decode cX3_count 3 = .ok (.invokestatic 140, 3) := by decide +kernel
theorem dX3_count_6 : decode cX3_count 6 = .ok (.iload_n 1, 1) := by decide +kernel
theorem dX3_count_7 : decode cX3_count 7 = .ok (.tableswitch 121 0 8 #[49, 57, 65, 73, 81, 89, 97, 105, 113], 49) := by decide +kernel
theorem dX3_count_56 : decode cX3_count 56 = .ok (.aload_n 0, 1) := by decide +kernel
theorem dX3_count_57 : decode cX3_count 57 = .ok (.getfield 10, 3) := by decide +kernel
theorem dX3_count_60 : decode cX3_count 60 = .ok (.getfield 171, 3) := by decide +kernel
theorem dX3_count_63 : decode cX3_count 63 = .ok (.ireturn, 1) := by decide +kernel
theorem dX3_count_64 : decode cX3_count 64 = .ok (.aload_n 0, 1) := by decide +kernel
theorem dX3_count_65 : decode cX3_count 65 = .ok (.getfield 10, 3) := by decide +kernel
theorem dX3_count_68 : decode cX3_count 68 = .ok (.getfield 174, 3) := by decide +kernel
theorem dX3_count_71 : decode cX3_count 71 = .ok (.ireturn, 1) := by decide +kernel
theorem dX3_count_72 : decode cX3_count 72 = .ok (.aload_n 0, 1) := by decide +kernel
theorem dX3_count_73 : decode cX3_count 73 = .ok (.getfield 10, 3) := by decide +kernel
theorem dX3_count_76 : decode cX3_count 76 = .ok (.getfield 177, 3) := by decide +kernel
theorem dX3_count_79 : decode cX3_count 79 = .ok (.ireturn, 1) := by decide +kernel
theorem dX3_count_80 : decode cX3_count 80 = .ok (.aload_n 0, 1) := by decide +kernel
theorem dX3_count_81 : decode cX3_count 81 = .ok (.getfield 10, 3) := by decide +kernel
theorem dX3_count_84 : decode cX3_count 84 = .ok (.getfield 180, 3) := by decide +kernel
theorem dX3_count_87 : decode cX3_count 87 = .ok (.ireturn, 1) := by decide +kernel
theorem dX3_count_88 : decode cX3_count 88 = .ok (.aload_n 0, 1) := by decide +kernel
theorem dX3_count_89 : decode cX3_count 89 = .ok (.getfield 10, 3) := by decide +kernel
theorem dX3_count_92 : decode cX3_count 92 = .ok (.getfield 183, 3) := by decide +kernel
theorem dX3_count_95 : decode cX3_count 95 = .ok (.ireturn, 1) := by decide +kernel
theorem dX3_count_96 : decode cX3_count 96 = .ok (.aload_n 0, 1) := by decide +kernel
theorem dX3_count_97 : decode cX3_count 97 = .ok (.getfield 10, 3) := by decide +kernel
theorem dX3_count_100 : decode cX3_count 100 = .ok (.invokevirtual 186, 3) := by decide +kernel
theorem dX3_count_103 : decode cX3_count 103 = .ok (.ireturn, 1) := by decide +kernel
theorem dX3_count_104 : decode cX3_count 104 = .ok (.aload_n 0, 1) := by decide +kernel
theorem dX3_count_105 : decode cX3_count 105 = .ok (.getfield 10, 3) := by decide +kernel
theorem dX3_count_108 : decode cX3_count 108 = .ok (.invokevirtual 189, 3) := by decide +kernel
theorem dX3_count_111 : decode cX3_count 111 = .ok (.ireturn, 1) := by decide +kernel
theorem dX3_count_112 : decode cX3_count 112 = .ok (.aload_n 0, 1) := by decide +kernel
theorem dX3_count_113 : decode cX3_count 113 = .ok (.getfield 10, 3) := by decide +kernel
theorem dX3_count_116 : decode cX3_count 116 = .ok (.invokevirtual 192, 3) := by decide +kernel
theorem dX3_count_119 : decode cX3_count 119 = .ok (.ireturn, 1) := by decide +kernel
theorem dX3_count_120 : decode cX3_count 120 = .ok (.aload_n 0, 1) := by decide +kernel
theorem dX3_count_121 : decode cX3_count 121 = .ok (.getfield 10, 3) := by decide +kernel
theorem dX3_count_124 : decode cX3_count 124 = .ok (.invokevirtual 195, 3) := by decide +kernel
theorem dX3_count_127 : decode cX3_count 127 = .ok (.ireturn, 1) := by decide +kernel
theorem dX3_count_128 : decode cX3_count 128 = .ok (.aload_n 0, 1) := by decide +kernel
theorem dX3_count_129 : decode cX3_count 129 = .ok (.getfield 22, 3) := by decide +kernel
theorem dX3_count_132 : decode cX3_count 132 = .ok (.getfield 128, 3) := by decide +kernel
theorem dX3_count_135 : decode cX3_count 135 = .ok (.ireturn, 1) := by decide +kernel
set_option maxRecDepth 20000 in
theorem ggX3_setting_X3_needSetting : GoodIn wsX3_setting wsX3_needSetting := goodIn_ca (goodIn_r _ [6, 7, 8, 9, 10, 5, 11] (by decide +kernel) (by decide +kernel)) (goodIn_sub (fun _ h => List.mem_cons_of_mem _ (List.mem_append_right _ h)) (by decide +kernel))
set_option maxRecDepth 20000 in
theorem gX3_setting_X3_needSetting : GoodIn wsX3_setting (va_wsS RX3 96 yX3_needSetting wsX3_needSetting) := goodIn_app (goodIn_of _ (by decide +kernel)) ggX3_setting_X3_needSetting
theorem dX3_setting_0 : decode cX3_setting 0 = .ok (.iload_n 1, 1) := by decide +kernel
theorem dX3_setting_1 : decode cX3_setting 1 = .ok (.invokestatic 96, 3) := by decide +kernel
theorem dX3_setting_4 : decode cX3_setting 4 = .ok (.aload_n 0, 1) := by decide +kernel
theorem dX3_setting_5 : decode cX3_setting 5 = .ok (.getfield 10, 3) := by decide +kernel
theorem dX3_setting_8 : decode cX3_setting 8 = .ok (.getfield 101, 3) := by decide +kernel
theorem dX3_setting_11 : decode cX3_setting 11 = .ok (.iload_n 1, 1) := by decide +kernel
theorem dX3_setting_12 : decode cX3_setting 12 = .ok (.iaload, 1) := by decide +kernel
theorem dX3_setting_13 : decode cX3_setting 13 = .ok (.ireturn, 1) := by decide +kernel
set_option maxRecDepth 20000 in
theorem ggX3_cost_X3_needSlot : GoodIn wsX3_cost wsX3_needSlot := goodIn_ca (goodIn_r _ [6, 7, 8, 9, 10, 5, 11] (by decide +kernel) (by decide +kernel)) (goodIn_sub (fun _ h => List.mem_cons_of_mem _ (List.mem_append_left _ (List.mem_append_right _ h))) (by decide +kernel))
set_option maxRecDepth 20000 in
theorem gX3_cost_X3_needSlot : GoodIn wsX3_cost (va_wsS RX3 79 yX3_needSlot wsX3_needSlot) := goodIn_app (goodIn_of _ (by decide +kernel)) ggX3_cost_X3_needSlot
set_option maxRecDepth 20000 in
theorem ggX3_cost_X3_needNumber : GoodIn wsX3_cost wsX3_needNumber := goodIn_ca (goodIn_r _ [14, 15, 16, 9, 10, 5, 11] (by decide +kernel) (by decide +kernel)) (goodIn_sub (fun _ h => List.mem_cons_of_mem _ (List.mem_append_right _ h)) (by decide +kernel))
set_option maxRecDepth 20000 in
theorem gX3_cost_X3_needNumber : GoodIn wsX3_cost (va_wsS RX3 37 yX3_needNumber wsX3_needNumber) := goodIn_app (goodIn_of _ (by decide +kernel)) ggX3_cost_X3_needNumber
set_option maxRecDepth 20000 in
theorem ggX3_cost_X1_wayIn : GoodIn wsX3_cost wsX1_wayIn := goodIn_r _ [21, 22, 23, 24, 25, 20, 26, 27, 28, 29, 30, 31, 32, 33, 34, 35, 41, 42, 43, 44, 45, 46, 47, 48, 49, 50, 51, 52, 53] (by decide +kernel) (by decide +kernel)
set_option maxRecDepth 20000 in
theorem gX3_cost_X1_wayIn : GoodIn wsX3_cost (wsV RX3 198 RX1 yX1_wayIn wsX1_wayIn) := goodIn_app (goodIn_of _ (by decide +kernel)) ggX3_cost_X1_wayIn
set_option maxRecDepth 20000 in
theorem ggX3_cost_J6_bitCount_0f7a4 : GoodIn wsX3_cost wsJ6_bitCount_0f7a4 := goodIn_r _ [32, 33, 34, 35] (by decide +kernel) (by decide +kernel)
set_option maxRecDepth 20000 in
theorem gX3_cost_J6_bitCount_0f7a4 : GoodIn wsX3_cost (va_wsS RX3 201 yJ6_bitCount_0f7a4 wsJ6_bitCount_0f7a4) := goodIn_app (goodIn_of _ (by decide +kernel)) ggX3_cost_J6_bitCount_0f7a4
theorem dX3_cost_0 : decode cX3_cost 0 = .ok (.iload_n 1, 1) := by decide +kernel
theorem dX3_cost_1 : decode cX3_cost 1 = .ok (.invokestatic 79, 3) := by decide +kernel
theorem dX3_cost_4 : decode cX3_cost 4 = .ok (.iload_n 2, 1) := by decide +kernel
theorem dX3_cost_5 : decode cX3_cost 5 = .ok (.invokestatic 37, 3) := by decide +kernel
theorem dX3_cost_8 : decode cX3_cost 8 = .ok (.aload_n 0, 1) := by decide +kernel
theorem dX3_cost_9 : decode cX3_cost 9 = .ok (.getfield 10, 3) := by decide +kernel
theorem dX3_cost_12 : decode cX3_cost 12 = .ok (.iload_n 1, 1) := by decide +kernel
theorem dX3_cost_13 : decode cX3_cost 13 = .ok (.iload_n 2, 1) := by decide +kernel
theorem dX3_cost_14 : decode cX3_cost 14 = .ok (.invokevirtual 198, 3) := by decide +kernel
theorem dX3_cost_17 : decode cX3_cost 17 = .ok (.istore_n 3, 1) := by decide +kernel
theorem dX3_cost_18 : decode cX3_cost 18 = .ok (.iload_n 3, 1) := by decide +kernel
theorem dX3_cost_19 : decode cX3_cost 19 = .ok (.iconst (-1), 1) := by decide +kernel
theorem dX3_cost_20 : decode cX3_cost 20 = .ok (.if_icmp .ne 7, 3) := by decide +kernel
theorem dX3_cost_23 : decode cX3_cost 23 = .ok (.iconst (-1), 1) := by decide +kernel
theorem dX3_cost_24 : decode cX3_cost 24 = .ok (.goto 17, 3) := by decide +kernel
theorem dX3_cost_27 : decode cX3_cost 27 = .ok (.aload_n 0, 1) := by decide +kernel
theorem dX3_cost_28 : decode cX3_cost 28 = .ok (.getfield 10, 3) := by decide +kernel
theorem dX3_cost_31 : decode cX3_cost 31 = .ok (.getfield 159, 3) := by decide +kernel
theorem dX3_cost_34 : decode cX3_cost 34 = .ok (.iload_n 1, 1) := by decide +kernel
theorem dX3_cost_35 : decode cX3_cost 35 = .ok (.iaload, 1) := by decide +kernel
theorem dX3_cost_36 : decode cX3_cost 36 = .ok (.iload_n 3, 1) := by decide +kernel
theorem dX3_cost_37 : decode cX3_cost 37 = .ok (.ixor, 1) := by decide +kernel
theorem dX3_cost_38 : decode cX3_cost 38 = .ok (.invokestatic 201, 3) := by decide +kernel
theorem dX3_cost_41 : decode cX3_cost 41 = .ok (.ireturn, 1) := by decide +kernel
set_option maxRecDepth 20000 in
theorem ggX3_ifWritten_X3_needWord : GoodIn wsX3_ifWritten wsX3_needWord := goodIn_ca (goodIn_r _ [5, 6, 7, 8, 9, 4, 10] (by decide +kernel) (by decide +kernel)) (goodIn_sub (fun _ h => List.mem_cons_of_mem _ (List.mem_append_left _ (List.mem_append_right _ h))) (by decide +kernel))
set_option maxRecDepth 20000 in
theorem gX3_ifWritten_X3_needWord : GoodIn wsX3_ifWritten (va_wsS RX3 33 yX3_needWord wsX3_needWord) := goodIn_app (goodIn_of _ (by decide +kernel)) ggX3_ifWritten_X3_needWord
set_option maxRecDepth 20000 in
theorem ggX3_ifWritten_X3_needNumber : GoodIn wsX3_ifWritten wsX3_needNumber := goodIn_ca (goodIn_r _ [13, 14, 15, 8, 9, 4, 10] (by decide +kernel) (by decide +kernel)) (goodIn_sub (fun _ h => List.mem_cons_of_mem _ (List.mem_append_right _ h)) (by decide +kernel))
set_option maxRecDepth 20000 in
theorem gX3_ifWritten_X3_needNumber : GoodIn wsX3_ifWritten (va_wsS RX3 37 yX3_needNumber wsX3_needNumber) := goodIn_app (goodIn_of _ (by decide +kernel)) ggX3_ifWritten_X3_needNumber
set_option maxRecDepth 20000 in
theorem ggX3_ifWritten_X1_targetOf : GoodIn wsX3_ifWritten wsX1_targetOf := goodIn_r _ [20, 21, 22, 23, 24, 19, 25, 26, 27, 28, 29, 30, 31, 32, 33, 34, 35, 36, 37, 38, 39, 40, 41, 42, 43, 44, 45, 46, 47, 48, 49, 50, 51, 52, 53, 54, 55, 56, 57, 62, 63, 64, 65, 66, 67, 68, 69, 70, 71, 72, 73, 74] (by decide +kernel) (by decide +kernel)
set_option maxRecDepth 20000 in
theorem gX3_ifWritten_X1_targetOf : GoodIn wsX3_ifWritten (wsV RX3 40 RX1 yX1_targetOf wsX1_targetOf) := goodIn_app (goodIn_of _ (by decide +kernel)) ggX3_ifWritten_X1_targetOf
theorem dX3_ifWritten_0 : decode cX3_ifWritten 0 = .ok (.iload_n 1, 1) := by decide +kernel
theorem dX3_ifWritten_1 : decode cX3_ifWritten 1 = .ok (.invokestatic 33, 3) := by decide +kernel
theorem dX3_ifWritten_4 : decode cX3_ifWritten 4 = .ok (.iload_n 2, 1) := by decide +kernel
theorem dX3_ifWritten_5 : decode cX3_ifWritten 5 = .ok (.invokestatic 37, 3) := by decide +kernel
theorem dX3_ifWritten_8 : decode cX3_ifWritten 8 = .ok (.aload_n 0, 1) := by decide +kernel
theorem dX3_ifWritten_9 : decode cX3_ifWritten 9 = .ok (.getfield 10, 3) := by decide +kernel
theorem dX3_ifWritten_12 : decode cX3_ifWritten 12 = .ok (.iload_n 1, 1) := by decide +kernel
theorem dX3_ifWritten_13 : decode cX3_ifWritten 13 = .ok (.iload_n 2, 1) := by decide +kernel
theorem dX3_ifWritten_14 : decode cX3_ifWritten 14 = .ok (.invokevirtual 40, 3) := by decide +kernel
theorem dX3_ifWritten_17 : decode cX3_ifWritten 17 = .ok (.ireturn, 1) := by decide +kernel
set_option maxRecDepth 20000 in
theorem ggX3_costliest_X3_needWord : GoodIn wsX3_costliest wsX3_needWord := goodIn_ca (goodIn_r _ [6, 7, 8, 9, 10, 5, 11] (by decide +kernel) (by decide +kernel)) (goodIn_sub (fun _ h => List.mem_cons_of_mem _ (List.mem_append_right _ h)) (by decide +kernel))
set_option maxRecDepth 20000 in
theorem gX3_costliest_X3_needWord : GoodIn wsX3_costliest (va_wsS RX3 33 yX3_needWord wsX3_needWord) := goodIn_app (goodIn_of _ (by decide +kernel)) ggX3_costliest_X3_needWord
set_option maxRecDepth 20000 in
theorem ggX3_costliest_X1_dearestIn : GoodIn wsX3_costliest wsX1_dearestIn := goodIn_r _ [16, 17, 18, 19, 15, 20, 21, 22, 23, 24, 25, 26, 27, 28, 29, 30, 31, 32, 33, 34, 35, 36, 37, 38, 39, 40, 45, 46, 47, 48, 49, 50, 51, 52, 53, 54, 55, 56, 57] (by decide +kernel) (by decide +kernel)
set_option maxRecDepth 20000 in
theorem gX3_costliest_X1_dearestIn : GoodIn wsX3_costliest (wsV RX3 206 RX1 yX1_dearestIn wsX1_dearestIn) := goodIn_app (goodIn_of _ (by decide +kernel)) ggX3_costliest_X1_dearestIn
theorem dX3_costliest_0 : decode cX3_costliest 0 = .ok (.iload_n 1, 1) := by decide +kernel
theorem dX3_costliest_1 : decode cX3_costliest 1 = .ok (.invokestatic 33, 3) := by decide +kernel
theorem dX3_costliest_4 : decode cX3_costliest 4 = .ok (.aload_n 0, 1) := by decide +kernel
theorem dX3_costliest_5 : decode cX3_costliest 5 = .ok (.getfield 10, 3) := by decide +kernel
theorem dX3_costliest_8 : decode cX3_costliest 8 = .ok (.aload_n 0, 1) := by decide +kernel
theorem dX3_costliest_9 : decode cX3_costliest 9 = .ok (.getfield 10, 3) := by decide +kernel
theorem dX3_costliest_12 : decode cX3_costliest 12 = .ok (.getfield 75, 3) := by decide +kernel
theorem dX3_costliest_15 : decode cX3_costliest 15 = .ok (.iload_n 1, 1) := by decide +kernel
theorem dX3_costliest_16 : decode cX3_costliest 16 = .ok (.iaload, 1) := by decide +kernel
theorem dX3_costliest_17 : decode cX3_costliest 17 = .ok (.invokevirtual 206, 3) := by decide +kernel
theorem dX3_costliest_20 : decode cX3_costliest 20 = .ok (.ireturn, 1) := by decide +kernel
set_option maxRecDepth 20000 in
theorem ggX3_life_X3_needWord : GoodIn wsX3_life wsX3_needWord := goodIn_ca (goodIn_r _ [6, 7, 8, 9, 10, 5, 11] (by decide +kernel) (by decide +kernel)) (goodIn_sub (fun _ h => List.mem_cons_of_mem _ (List.mem_append_left _ (List.mem_append_right _ h))) (by decide +kernel))
set_option maxRecDepth 20000 in
theorem gX3_life_X3_needWord : GoodIn wsX3_life (va_wsS RX3 33 yX3_needWord wsX3_needWord) := goodIn_app (goodIn_of _ (by decide +kernel)) ggX3_life_X3_needWord
set_option maxRecDepth 20000 in
theorem ggX3_life_X3_needNumber : GoodIn wsX3_life wsX3_needNumber := goodIn_ca (goodIn_r _ [14, 15, 16, 9, 10, 5, 11] (by decide +kernel) (by decide +kernel)) (goodIn_sub (fun _ h => List.mem_cons_of_mem _ (List.mem_append_right _ h)) (by decide +kernel))
set_option maxRecDepth 20000 in
theorem gX3_life_X3_needNumber : GoodIn wsX3_life (va_wsS RX3 37 yX3_needNumber wsX3_needNumber) := goodIn_app (goodIn_of _ (by decide +kernel)) ggX3_life_X3_needNumber
set_option maxRecDepth 20000 in
theorem ggX3_life_X1_copyFrom : GoodIn wsX3_life wsX1_copyFrom := goodIn_r _ [21, 22, 23, 24, 25, 26, 27, 28, 29, 30, 31, 32, 33, 34, 35, 36, 37, 38, 102, 103, 104, 105, 106, 107, 108, 109, 110, 111, 112, 113, 114] (by decide +kernel) (by decide +kernel)
set_option maxRecDepth 20000 in
theorem gX3_life_X1_copyFrom : GoodIn wsX3_life (wsV RX3 209 RX1 yX1_copyFrom wsX1_copyFrom) := goodIn_app (goodIn_of _ (by decide +kernel)) ggX3_life_X1_copyFrom
set_option maxRecDepth 20000 in
theorem ggX3_life_X1_placeInTurns : GoodIn wsX3_life wsX1_placeInTurns := goodIn_r _ [42, 43, 44, 45, 20, 46, 29, 47, 48, 49, 50, 22, 51, 52, 53, 54, 27, 33, 55, 56, 57, 58, 59, 60, 61, 62, 63, 64, 65, 30, 66, 67, 68, 69, 28, 70, 71, 72, 73, 74, 75, 76, 77, 78, 79, 80, 81, 34, 35, 36, 38, 82, 83, 84, 85, 86, 87, 88, 89, 90, 91, 92, 93, 94, 95, 96, 97, 31, 32, 37, 102, 103, 104, 105, 106, 107, 108, 109, 110, 111, 112, 113, 114] (by decide +kernel) (by decide +kernel)
set_option maxRecDepth 20000 in
theorem gX3_life_X1_placeInTurns : GoodIn wsX3_life (wsV RX3 68 RX1 yX1_placeInTurns wsX1_placeInTurns) := goodIn_app (goodIn_of _ (by decide +kernel)) ggX3_life_X1_placeInTurns
theorem dX3_life_0 : decode cX3_life 0 = .ok (.iload_n 1, 1) := by decide +kernel
theorem dX3_life_1 : decode cX3_life 1 = .ok (.invokestatic 33, 3) := by decide +kernel
theorem dX3_life_4 : decode cX3_life 4 = .ok (.iload_n 2, 1) := by decide +kernel
theorem dX3_life_5 : decode cX3_life 5 = .ok (.invokestatic 37, 3) := by decide +kernel
theorem dX3_life_8 : decode cX3_life 8 = .ok (.aload_n 0, 1) := by decide +kernel
theorem dX3_life_9 : decode cX3_life 9 = .ok (.getfield 16, 3) := by decide +kernel
theorem dX3_life_12 : decode cX3_life 12 = .ok (.aload_n 0, 1) := by decide +kernel
theorem dX3_life_13 : decode cX3_life 13 = .ok (.getfield 10, 3) := by decide +kernel
theorem dX3_life_16 : decode cX3_life 16 = .ok (.invokevirtual 209, 3) := by decide +kernel
theorem dX3_life_19 : decode cX3_life 19 = .ok (.aload_n 0, 1) := by decide +kernel
theorem dX3_life_20 : decode cX3_life 20 = .ok (.getfield 16, 3) := by decide +kernel
theorem dX3_life_23 : decode cX3_life 23 = .ok (.iload_n 1, 1) := by decide +kernel
theorem dX3_life_24 : decode cX3_life 24 = .ok (.iload_n 2, 1) := by decide +kernel
theorem dX3_life_25 : decode cX3_life 25 = .ok (.sipush 500, 3) := by decide +kernel
theorem dX3_life_28 : decode cX3_life 28 = .ok (.invokevirtual 68, 3) := by decide +kernel
theorem dX3_life_31 : decode cX3_life 31 = .ok (.ireturn, 1) := by decide +kernel
theorem dX3_share_0 : decode cX3_share 0 = .ok (.aload_n 0, 1) := by decide +kernel
theorem dX3_share_1 : decode cX3_share 1 = .ok (.getfield 10, 3) := by decide +kernel
theorem dX3_share_4 : decode cX3_share 4 = .ok (.getfield 177, 3) := by decide +kernel
theorem dX3_share_7 : decode cX3_share 7 = .ok (.istore_n 1, 1) := by decide +kernel
theorem dX3_share_8 : decode cX3_share 8 = .ok (.iload_n 1, 1) := by decide +kernel
theorem dX3_share_9 : decode cX3_share 9 = .ok (.ifCond .ne 7, 3) := by decide +kernel
theorem dX3_share_12 : decode cX3_share 12 = .ok (.dconst 1, 1) := by decide +kernel
theorem dX3_share_13 : decode cX3_share 13 = .ok (.goto 14, 3) := by decide +kernel
theorem dX3_share_16 : decode cX3_share 16 = .ok (.aload_n 0, 1) := by decide +kernel
theorem dX3_share_17 : decode cX3_share 17 = .ok (.getfield 10, 3) := by decide +kernel
theorem dX3_share_20 : decode cX3_share 20 = .ok (.getfield 174, 3) := by decide +kernel
theorem dX3_share_23 : decode cX3_share 23 = .ok (.i2d, 1) := by decide +kernel
theorem dX3_share_24 : decode cX3_share 24 = .ok (.iload_n 1, 1) := by decide +kernel
theorem dX3_share_25 : decode cX3_share 25 = .ok (.i2d, 1) := by decide +kernel
theorem dX3_share_26 : decode cX3_share 26 = .ok (.ddiv, 1) := by decide +kernel
theorem dX3_share_27 : decode cX3_share 27 = .ok (.dreturn, 1) := by decide +kernel
set_option maxRecDepth 20000 in
theorem ggX3_digest_X3_count : GoodIn wsX3_digest wsX3_count := goodIn_ca (goodIn_r _ [10, 3, 11, 12, 13, 14, 15, 16, 17, 18, 19, 9, 20, 21, 22, 23, 24, 25, 26, 27, 28, 29, 30, 31, 32, 33, 34, 35, 36, 37, 38, 39, 40, 41, 42, 43, 44, 45, 46, 47, 48, 49, 50, 51, 52, 53, 54, 55, 56, 57, 58, 59, 60, 61, 62, 63, 64, 65, 66, 67, 68, 69, 70, 71, 72, 73, 74, 75, 76, 77, 78, 79, 224, 225, 226, 227, 228, 229, 230, 231, 232, 233, 234, 235, 236, 237, 238, 239, 240, 241, 242, 243] (by decide +kernel) (by decide +kernel)) (goodIn_sub (fun _ h => List.mem_cons_of_mem _ (List.mem_append_left _ (List.mem_append_right _ h))) (by decide +kernel))
set_option maxRecDepth 20000 in
theorem gX3_digest_X3_count : GoodIn wsX3_digest (wsV RX3 216 RX3 yX3_count wsX3_count) := goodIn_app (goodIn_of _ (by decide +kernel)) ggX3_digest_X3_count
set_option maxRecDepth 20000 in
theorem ggX3_digest_X3_hashOfWord : GoodIn wsX3_digest wsX3_hashOfWord := goodIn_ca (goodIn_ca (goodIn_r _ [83, 2, 84, 85, 86, 9, 87, 3, 88, 89, 90, 91, 92, 23, 24, 25, 93, 71, 72, 29, 73, 74, 75, 76, 77, 78, 79, 94, 95, 96, 97, 98, 99, 100, 101, 18, 19, 20, 21, 22, 102, 62, 63, 64, 36, 65, 103, 104, 105, 106, 107, 108, 109, 110, 111, 112, 113, 114, 115, 116, 117, 31, 32, 33, 34, 35, 37, 38, 39, 40, 41, 42, 43, 61, 118, 119, 120, 121, 48, 49, 50, 51, 52, 53, 54, 55, 56, 122, 123, 124, 125, 126, 127, 128, 129, 130, 131, 132, 133, 134, 135, 224, 225, 226, 227, 228, 229, 230, 231, 232, 233, 234, 235, 236, 237, 238, 239, 240] (by decide +kernel) (by decide +kernel)) (goodIn_sub (fun _ h => List.mem_cons_of_mem _ (List.mem_append_right _ h)) (by decide +kernel))) (goodIn_sub (fun _ h => List.mem_cons_of_mem _ (List.mem_append_left _ (List.mem_append_right _ h))) (by decide +kernel))
set_option maxRecDepth 20000 in
theorem gX3_digest_X3_hashOfWord : GoodIn wsX3_digest (wsV RX3 219 RX3 yX3_hashOfWord wsX3_hashOfWord) := goodIn_app (goodIn_of _ (by decide +kernel)) ggX3_digest_X3_hashOfWord
set_option maxRecDepth 20000 in
theorem ggX3_digest_X3_hashOfSlot : GoodIn wsX3_digest wsX3_hashOfSlot := goodIn_ca (goodIn_ca (goodIn_r _ [139, 2, 140, 141, 142, 9, 143, 3, 144, 145, 146, 147, 148, 91, 92, 23, 24, 25, 18, 19, 20, 21, 22, 149, 54, 55, 29, 56, 35, 150, 32, 33, 34, 36, 151, 152, 153, 154, 155, 156, 157, 158, 159, 160, 161, 162, 107, 108, 109, 163, 115, 116, 117, 79, 31, 37, 38, 39, 40, 41, 42, 43, 164, 224, 225, 226, 227, 228, 229, 230, 231, 232, 233, 234, 235, 236, 237, 238, 239, 240] (by decide +kernel) (by decide +kernel)) (goodIn_sub (fun _ h => List.mem_cons_of_mem _ (List.mem_append_right _ h)) (by decide +kernel))) (goodIn_sub (fun _ h => List.mem_cons_of_mem _ (List.mem_append_left _ (List.mem_append_right _ h))) (by decide +kernel))
set_option maxRecDepth 20000 in
theorem gX3_digest_X3_hashOfSlot : GoodIn wsX3_digest (wsV RX3 223 RX3 yX3_hashOfSlot wsX3_hashOfSlot) := goodIn_app (goodIn_of _ (by decide +kernel)) ggX3_digest_X3_hashOfSlot
set_option maxRecDepth 20000 in
theorem ggX3_digest_X1_wornAt : GoodIn wsX3_digest wsX1_wornAt := goodIn_r _ [168, 35, 228, 229, 230, 231, 232, 233, 234, 235, 236, 237, 238, 239, 240] (by decide +kernel) (by decide +kernel)
set_option maxRecDepth 20000 in
theorem gX3_digest_X1_wornAt : GoodIn wsX3_digest (wsV RX3 87 RX1 yX1_wornAt wsX1_wornAt) := goodIn_app (goodIn_of _ (by decide +kernel)) ggX3_digest_X1_wornAt
set_option maxRecDepth 20000 in
theorem ggX3_digest_X3_life : GoodIn wsX3_digest wsX3_life := goodIn_ca (goodIn_ca (goodIn_r _ [172, 173, 3, 88, 89, 9, 90, 91, 92, 23, 24, 25, 107, 108, 109, 21, 22, 174, 175, 176, 29, 177, 79, 178, 179, 180, 181, 35, 48, 74, 65, 182, 183, 36, 184, 185, 186, 187, 188, 189, 190, 191, 192, 193, 111, 112, 113, 114, 115, 116, 117, 31, 32, 33, 34, 37, 38, 39, 40, 41, 42, 43, 61, 62, 63, 64, 118, 119, 120, 121, 49, 50, 51, 52, 53, 54, 55, 56, 194, 195, 196, 197, 70, 71, 72, 73, 75, 76, 77, 78, 198, 199, 200, 201, 202, 203, 204, 205, 224, 225, 226, 227, 228, 229, 230, 231, 232, 233, 234, 235, 236, 237, 238, 239, 240] (by decide +kernel) (by decide +kernel)) (goodIn_sub (fun _ h => List.mem_cons_of_mem _ (List.mem_append_right _ h)) (by decide +kernel))) (goodIn_sub (fun _ h => List.mem_cons_of_mem _ (List.mem_append_left _ (List.mem_append_right _ h))) (by decide +kernel))
set_option maxRecDepth 20000 in
theorem gX3_digest_X3_life : GoodIn wsX3_digest (wsV RX3 226 RX3 yX3_life wsX3_life) := goodIn_app (goodIn_of _ (by decide +kernel)) ggX3_digest_X3_life
set_option maxRecDepth 20000 in
theorem ggX3_digest_X3_share : GoodIn wsX3_digest wsX3_share := goodIn_r _ [209, 3, 13, 12, 224, 225, 226, 227, 228, 229, 230, 231, 232, 233, 234, 235, 236, 237, 238, 239, 240] (by decide +kernel) (by decide +kernel)
set_option maxRecDepth 20000 in
theorem gX3_digest_X3_share : GoodIn wsX3_digest (wsV RX3 229 RX3 yX3_share wsX3_share) := goodIn_app (goodIn_of _ (by decide +kernel)) ggX3_digest_X3_share
set_option maxRecDepth 20000 in
theorem ggX3_digest_X3_bitsOf : GoodIn wsX3_digest wsX3_bitsOf := goodIn_r _ [212, 213, 214, 215] (by decide +kernel) (by decide +kernel)
set_option maxRecDepth 20000 in
theorem gX3_digest_X3_bitsOf : GoodIn wsX3_digest (va_wsS RX3 233 yX3_bitsOf wsX3_bitsOf) := goodIn_app (goodIn_of _ (by decide +kernel)) ggX3_digest_X3_bitsOf
set_option maxRecDepth 20000 in
theorem ggX3_digest_X2_hashAfter : GoodIn wsX3_digest wsX2_hashAfter := goodIn_r _ [220, 221, 222, 223, 244, 245, 246, 247, 248, 249, 250] (by decide +kernel) (by decide +kernel)
set_option maxRecDepth 20000 in
theorem gX3_digest_X2_hashAfter : GoodIn wsX3_digest (wsV RX3 237 RX2 yX2_hashAfter wsX2_hashAfter) := goodIn_app (goodIn_of _ (by decide +kernel)) ggX3_digest_X2_hashAfter
theorem dX3_digest_0 : decode cX3_digest 0 = .ok (.ldc2_w 212, 3) := by decide +kernel
theorem dX3_digest_3 : decode cX3_digest 3 = .ok (.lstore_n 1, 1) := by decide +kernel
theorem dX3_digest_4 : decode cX3_digest 4 = .ok (.iconst 0, 1) := by decide +kernel
theorem dX3_digest_5 : decode cX3_digest 5 = .ok (.istore_n 3, 1) := by decide +kernel
theorem dX3_digest_6 : decode cX3_digest 6 = .ok (.iload_n 3, 1) := by decide +kernel
theorem dX3_digest_7 : decode cX3_digest 7 = .ok (.bipush 10, 2) := by decide +kernel
theorem dX3_digest_9 : decode cX3_digest 9 = .ok (.if_icmp .ge 22, 3) := by decide +kernel
theorem dX3_digest_12 : decode cX3_digest 12 = .ok (.ldc2_w 214, 3) := by decide +kernel
theorem dX3_digest_15 : decode cX3_digest 15 = .ok (.lload_n 1, 1) := by decide +kernel
theorem dX3_digest_16 : decode cX3_digest 16 = .ok (.lmul, 1) := by decide +kernel
theorem dX3_digest_17 : decode cX3_digest 17 = .ok (.aload_n 0, 1) := by decide +kernel
theorem dX3_digest_18 : decode cX3_digest 18 = .ok (.iload_n 3, 1) := by decide +kernel
theorem dX3_digest_19 : decode cX3_digest 19 = .ok (.invokevirtual 216, 3) := by decide +kernel
theorem dX3_digest_22 : decode cX3_digest 22 = .ok (.i2l, 1) := by decide +kernel
theorem dX3_digest_23 : decode cX3_digest 23 = .ok (.ladd, 1) := by decide +kernel
theorem dX3_digest_24 : decode cX3_digest 24 = .ok (.lstore_n 1, 1) := by decide +kernel
theorem dX3_digest_25 : decode cX3_digest 25 = .ok (.iinc 3 1, 3) := by decide +kernel
theorem dX3_digest_28 : decode cX3_digest 28 = .ok (.goto (-22), 3) := by decide +kernel
theorem dX3_digest_31 : decode cX3_digest 31 = .ok (.iconst 0, 1) := by decide +kernel
theorem dX3_digest_32 : decode cX3_digest 32 = .ok (.istore_n 3, 1) := by decide +kernel
theorem dX3_digest_33 : decode cX3_digest 33 = .ok (.iload_n 3, 1) := by decide +kernel
theorem dX3_digest_34 : decode cX3_digest 34 = .ok (.iconst 2, 1) := by decide +kernel
theorem dX3_digest_35 : decode cX3_digest 35 = .ok (.if_icmp .ge 26, 3) := by decide +kernel
theorem dX3_digest_38 : decode cX3_digest 38 = .ok (.ldc2_w 214, 3) := by decide +kernel
theorem dX3_digest_41 : decode cX3_digest 41 = .ok (.lload_n 1, 1) := by decide +kernel
theorem dX3_digest_42 : decode cX3_digest 42 = .ok (.lmul, 1) := by decide +kernel
theorem dX3_digest_43 : decode cX3_digest 43 = .ok (.aload_n 0, 1) := by decide +kernel
theorem dX3_digest_44 : decode cX3_digest 44 = .ok (.getfield 10, 3) := by decide +kernel
theorem dX3_digest_47 : decode cX3_digest 47 = .ok (.getfield 101, 3) := by decide +kernel
theorem dX3_digest_50 : decode cX3_digest 50 = .ok (.iload_n 3, 1) := by decide +kernel
theorem dX3_digest_51 : decode cX3_digest 51 = .ok (.iaload, 1) := by decide +kernel
theorem dX3_digest_52 : decode cX3_digest 52 = .ok (.i2l, 1) := by decide +kernel
theorem dX3_digest_53 : decode cX3_digest 53 = .ok (.ladd, 1) := by decide +kernel
theorem dX3_digest_54 : decode cX3_digest 54 = .ok (.lstore_n 1, 1) := by decide +kernel
theorem dX3_digest_55 : decode cX3_digest 55 = .ok (.iinc 3 1, 3) := by decide +kernel
theorem dX3_digest_58 : decode cX3_digest 58 = .ok (.goto (-25), 3) := by decide +kernel
theorem dX3_digest_61 : decode cX3_digest 61 = .ok (.iconst 0, 1) := by decide +kernel
theorem dX3_digest_62 : decode cX3_digest 62 = .ok (.istore_n 3, 1) := by decide +kernel
theorem dX3_digest_63 : decode cX3_digest 63 = .ok (.iload_n 3, 1) := by decide +kernel
theorem dX3_digest_64 : decode cX3_digest 64 = .ok (.bipush 16, 2) := by decide +kernel
theorem dX3_digest_66 : decode cX3_digest 66 = .ok (.if_icmp .ge 16, 3) := by decide +kernel
theorem dX3_digest_69 : decode cX3_digest 69 = .ok (.aload_n 0, 1) := by decide +kernel
theorem dX3_digest_70 : decode cX3_digest 70 = .ok (.lload_n 1, 1) := by decide +kernel
theorem dX3_digest_71 : decode cX3_digest 71 = .ok (.iload_n 3, 1) := by decide +kernel
theorem dX3_digest_72 : decode cX3_digest 72 = .ok (.invokevirtual 219, 3) := by decide +kernel
theorem dX3_digest_75 : decode cX3_digest 75 = .ok (.lstore_n 1, 1) := by decide +kernel
theorem dX3_digest_76 : decode cX3_digest 76 = .ok (.iinc 3 1, 3) := by decide +kernel
theorem dX3_digest_79 : decode cX3_digest 79 = .ok (.goto (-16), 3) := by decide +kernel
theorem dX3_digest_82 : decode cX3_digest 82 = .ok (.iconst 0, 1) := by decide +kernel
theorem dX3_digest_83 : decode cX3_digest 83 = .ok (.istore_n 3, 1) := by decide +kernel
theorem dX3_digest_84 : decode cX3_digest 84 = .ok (.iload_n 3, 1) := by decide +kernel
theorem dX3_digest_85 : decode cX3_digest 85 = .ok (.bipush 18, 2) := by decide +kernel
theorem dX3_digest_87 : decode cX3_digest 87 = .ok (.if_icmp .ge 16, 3) := by decide +kernel
theorem dX3_digest_90 : decode cX3_digest 90 = .ok (.aload_n 0, 1) := by decide +kernel
theorem dX3_digest_91 : decode cX3_digest 91 = .ok (.lload_n 1, 1) := by decide +kernel
theorem dX3_digest_92 : decode cX3_digest 92 = .ok (.iload_n 3, 1) := by decide +kernel
theorem dX3_digest_93 : decode cX3_digest 93 = .ok (.invokevirtual 223, 3) := by decide +kernel
theorem dX3_digest_96 : decode cX3_digest 96 = .ok (.lstore_n 1, 1) := by decide +kernel
theorem dX3_digest_97 : decode cX3_digest 97 = .ok (.iinc 3 1, 3) := by decide +kernel
theorem dX3_digest_100 : decode cX3_digest 100 = .ok (.goto (-16), 3) := by decide +kernel
theorem dX3_digest_103 : decode cX3_digest 103 = .ok (.iconst 0, 1) := by decide +kernel
theorem dX3_digest_104 : decode cX3_digest 104 = .ok (.istore_n 3, 1) := by decide +kernel
theorem dX3_digest_105 : decode cX3_digest 105 = .ok (.iload_n 3, 1) := by decide +kernel
theorem dX3_digest_106 : decode cX3_digest 106 = .ok (.bipush 13, 2) := by decide +kernel
theorem dX3_digest_108 : decode cX3_digest 108 = .ok (.if_icmp .ge 26, 3) := by decide +kernel
theorem dX3_digest_111 : decode cX3_digest 111 = .ok (.ldc2_w 214, 3) := by decide +kernel
theorem dX3_digest_114 : decode cX3_digest 114 = .ok (.lload_n 1, 1) := by decide +kernel
theorem dX3_digest_115 : decode cX3_digest 115 = .ok (.lmul, 1) := by decide +kernel
theorem dX3_digest_116 : decode cX3_digest 116 = .ok (.aload_n 0, 1) := by decide +kernel
theorem dX3_digest_117 : decode cX3_digest 117 = .ok (.getfield 10, 3) := by decide +kernel
theorem dX3_digest_120 : decode cX3_digest 120 = .ok (.iconst 0, 1) := by decide +kernel
theorem dX3_digest_121 : decode cX3_digest 121 = .ok (.iload_n 3, 1) := by decide +kernel
theorem dX3_digest_122 : decode cX3_digest 122 = .ok (.invokevirtual 87, 3) := by decide +kernel
theorem dX3_digest_125 : decode cX3_digest 125 = .ok (.i2l, 1) := by decide +kernel
theorem dX3_digest_126 : decode cX3_digest 126 = .ok (.ladd, 1) := by decide +kernel
theorem dX3_digest_127 : decode cX3_digest 127 = .ok (.lstore_n 1, 1) := by decide +kernel
theorem dX3_digest_128 : decode cX3_digest 128 = .ok (.iinc 3 1, 3) := by decide +kernel
theorem dX3_digest_131 : decode cX3_digest 131 = .ok (.goto (-26), 3) := by decide +kernel
theorem dX3_digest_134 : decode cX3_digest 134 = .ok (.ldc2_w 214, 3) := by decide +kernel
theorem dX3_digest_137 : decode cX3_digest 137 = .ok (.lload_n 1, 1) := by decide +kernel
theorem dX3_digest_138 : decode cX3_digest 138 = .ok (.lmul, 1) := by decide +kernel
theorem dX3_digest_139 : decode cX3_digest 139 = .ok (.aload_n 0, 1) := by decide +kernel
theorem dX3_digest_140 : decode cX3_digest 140 = .ok (.iconst 0, 1) := by decide +kernel
theorem dX3_digest_141 : decode cX3_digest 141 = .ok (.sipush 819, 3) := by decide +kernel
theorem dX3_digest_144 : decode cX3_digest 144 = .ok (.invokevirtual 226, 3) := by decide +kernel
theorem dX3_digest_147 : decode cX3_digest 147 = .ok (.i2l, 1) := by decide +kernel
theorem dX3_digest_148 : decode cX3_digest 148 = .ok (.ladd, 1) := by decide +kernel
theorem dX3_digest_149 : decode cX3_digest 149 = .ok (.lstore_n 1, 1) := by decide +kernel
theorem dX3_digest_150 : decode cX3_digest 150 = .ok (.ldc2_w 214, 3) := by decide +kernel
theorem dX3_digest_153 : decode cX3_digest 153 = .ok (.lload_n 1, 1) := by decide +kernel
theorem dX3_digest_154 : decode cX3_digest 154 = .ok (.lmul, 1) := by decide +kernel
theorem dX3_digest_155 : decode cX3_digest 155 = .ok (.aload_n 0, 1) := by decide +kernel
theorem dX3_digest_156 : decode cX3_digest 156 = .ok (.invokevirtual 229, 3) := by decide +kernel
theorem dX3_digest_159 : decode cX3_digest 159 = .ok (.invokestatic 233, 3) := by decide +kernel
theorem dX3_digest_162 : decode cX3_digest 162 = .ok (.ladd, 1) := by decide +kernel
theorem dX3_digest_163 : decode cX3_digest 163 = .ok (.lstore_n 1, 1) := by decide +kernel
theorem dX3_digest_164 : decode cX3_digest 164 = .ok (.aload_n 0, 1) := by decide +kernel
theorem dX3_digest_165 : decode cX3_digest 165 = .ok (.getfield 29, 3) := by decide +kernel
theorem dX3_digest_168 : decode cX3_digest 168 = .ok (.lload_n 1, 1) := by decide +kernel
theorem dX3_digest_169 : decode cX3_digest 169 = .ok (.invokevirtual 237, 3) := by decide +kernel
theorem dX3_digest_172 : decode cX3_digest 172 = .ok (.lreturn, 1) := by decide +kernel
set_option maxRecDepth 20000 in
theorem ggX3_hashOfWord_X3_read : GoodIn wsX3_hashOfWord wsX3_read := goodIn_ca (goodIn_r _ [6, 7, 8, 9, 5, 10, 11, 12, 13, 14, 15, 16, 17, 18, 19, 20, 21, 22, 23, 24, 25, 26, 101, 102, 103, 104, 105, 106, 107, 108, 109, 110, 111, 112, 113, 114, 115, 116, 117] (by decide +kernel) (by decide +kernel)) (goodIn_sub (fun _ h => List.mem_cons_of_mem _ (List.mem_append_left _ (List.mem_append_right _ h))) (by decide +kernel))
set_option maxRecDepth 20000 in
theorem gX3_hashOfWord_X3_read : GoodIn wsX3_hashOfWord (wsV RX3 241 RX3 yX3_read wsX3_read) := goodIn_app (goodIn_of _ (by decide +kernel)) ggX3_hashOfWord_X3_read
set_option maxRecDepth 20000 in
theorem ggX3_hashOfWord_X3_word : GoodIn wsX3_hashOfWord wsX3_word := goodIn_ca (goodIn_ca (goodIn_r _ [30, 7, 31, 32, 33, 34, 8, 9, 5, 10, 11, 12, 13, 14, 15, 35, 36, 37, 38, 39, 40, 41, 42, 19, 43, 44, 45, 101, 102, 103, 104, 105, 106, 107, 108, 109, 110, 111, 112, 113, 114, 115, 116, 117] (by decide +kernel) (by decide +kernel)) (goodIn_sub (fun _ h => List.mem_cons_of_mem _ (List.mem_append_left _ (List.mem_append_right _ h))) (by decide +kernel))) (goodIn_sub (fun _ h => List.mem_cons_of_mem _ (List.mem_append_right _ h)) (by decide +kernel))
set_option maxRecDepth 20000 in
theorem gX3_hashOfWord_X3_word : GoodIn wsX3_hashOfWord (wsV RX3 244 RX3 yX3_word wsX3_word) := goodIn_app (goodIn_of _ (by decide +kernel)) ggX3_hashOfWord_X3_word
set_option maxRecDepth 20000 in
theorem ggX3_hashOfWord_X3_ifWritten : GoodIn wsX3_hashOfWord wsX3_ifWritten := goodIn_ca (goodIn_ca (goodIn_r _ [49, 7, 8, 9, 5, 10, 11, 12, 13, 14, 15, 50, 51, 52, 38, 39, 53, 54, 55, 19, 56, 21, 57, 58, 59, 60, 26, 61, 62, 63, 64, 65, 44, 66, 67, 68, 69, 70, 71, 72, 73, 41, 42, 43, 45, 74, 75, 76, 77, 78, 79, 80, 81, 82, 83, 84, 85, 86, 101, 102, 103, 104, 105, 106, 107, 108, 109, 110, 111, 112, 113, 114, 115, 116, 117] (by decide +kernel) (by decide +kernel)) (goodIn_sub (fun _ h => List.mem_cons_of_mem _ (List.mem_append_left _ (List.mem_append_right _ h))) (by decide +kernel))) (goodIn_sub (fun _ h => List.mem_cons_of_mem _ (List.mem_append_right _ h)) (by decide +kernel))
set_option maxRecDepth 20000 in
theorem gX3_hashOfWord_X3_ifWritten : GoodIn wsX3_hashOfWord (wsV RX3 247 RX3 yX3_ifWritten wsX3_ifWritten) := goodIn_app (goodIn_of _ (by decide +kernel)) ggX3_hashOfWord_X3_ifWritten
set_option maxRecDepth 20000 in
theorem ggX3_hashOfWord_X3_costliest : GoodIn wsX3_hashOfWord wsX3_costliest := goodIn_ca (goodIn_r _ [90, 7, 31, 8, 9, 5, 10, 11, 12, 13, 14, 15, 91, 92, 93, 19, 94, 22, 23, 24, 25, 26, 61, 62, 63, 64, 65, 44, 95, 96, 97, 66, 67, 68, 69, 70, 71, 72, 98, 99, 100, 101, 102, 103, 104, 105, 106, 107, 108, 109, 110, 111, 112, 113, 114, 115, 116, 117] (by decide +kernel) (by decide +kernel)) (goodIn_sub (fun _ h => List.mem_cons_of_mem _ (List.mem_append_left _ (List.mem_append_right _ h))) (by decide +kernel))
set_option maxRecDepth 20000 in
theorem gX3_hashOfWord_X3_costliest : GoodIn wsX3_hashOfWord (wsV RX3 250 RX3 yX3_costliest wsX3_costliest) := goodIn_app (goodIn_of _ (by decide +kernel)) ggX3_hashOfWord_X3_costliest
theorem dX3_hashOfWord_0 : decode cX3_hashOfWord 0 = .ok (.ldc2_w 214, 3) := by decide +kernel
theorem dX3_hashOfWord_3 : decode cX3_hashOfWord 3 = .ok (.lload_n 1, 1) := by decide +kernel
theorem dX3_hashOfWord_4 : decode cX3_hashOfWord 4 = .ok (.lmul, 1) := by decide +kernel
theorem dX3_hashOfWord_5 : decode cX3_hashOfWord 5 = .ok (.aload_n 0, 1) := by decide +kernel
theorem dX3_hashOfWord_6 : decode cX3_hashOfWord 6 = .ok (.iload_n 3, 1) := by decide +kernel
theorem dX3_hashOfWord_7 : decode cX3_hashOfWord 7 = .ok (.invokevirtual 241, 3) := by decide +kernel
theorem dX3_hashOfWord_10 : decode cX3_hashOfWord 10 = .ok (.i2l, 1) := by decide +kernel
theorem dX3_hashOfWord_11 : decode cX3_hashOfWord 11 = .ok (.ladd, 1) := by decide +kernel
theorem dX3_hashOfWord_12 : decode cX3_hashOfWord 12 = .ok (.lstore 4, 2) := by decide +kernel
theorem dX3_hashOfWord_14 : decode cX3_hashOfWord 14 = .ok (.iconst 0, 1) := by decide +kernel
theorem dX3_hashOfWord_15 : decode cX3_hashOfWord 15 = .ok (.istore 6, 2) := by decide +kernel
theorem dX3_hashOfWord_17 : decode cX3_hashOfWord 17 = .ok (.iload 6, 2) := by decide +kernel
theorem dX3_hashOfWord_19 : decode cX3_hashOfWord 19 = .ok (.iconst 5, 1) := by decide +kernel
theorem dX3_hashOfWord_20 : decode cX3_hashOfWord 20 = .ok (.if_icmp .ge 26, 3) := by decide +kernel
theorem dX3_hashOfWord_23 : decode cX3_hashOfWord 23 = .ok (.ldc2_w 214, 3) := by decide +kernel
theorem dX3_hashOfWord_26 : decode cX3_hashOfWord 26 = .ok (.lload 4, 2) := by decide +kernel
theorem dX3_hashOfWord_28 : decode cX3_hashOfWord 28 = .ok (.lmul, 1) := by decide +kernel
theorem dX3_hashOfWord_29 : decode cX3_hashOfWord 29 = .ok (.aload_n 0, 1) := by decide +kernel
theorem dX3_hashOfWord_30 : decode cX3_hashOfWord 30 = .ok (.iload_n 3, 1) := by decide +kernel
theorem dX3_hashOfWord_31 : decode cX3_hashOfWord 31 = .ok (.iload 6, 2) := by decide +kernel
theorem dX3_hashOfWord_33 : decode cX3_hashOfWord 33 = .ok (.invokevirtual 244, 3) := by decide +kernel
theorem dX3_hashOfWord_36 : decode cX3_hashOfWord 36 = .ok (.i2l, 1) := by decide +kernel
theorem dX3_hashOfWord_37 : decode cX3_hashOfWord 37 = .ok (.ladd, 1) := by decide +kernel
theorem dX3_hashOfWord_38 : decode cX3_hashOfWord 38 = .ok (.lstore 4, 2) := by decide +kernel
theorem dX3_hashOfWord_40 : decode cX3_hashOfWord 40 = .ok (.iinc 6 1, 3) := by decide +kernel
theorem dX3_hashOfWord_43 : decode cX3_hashOfWord 43 = .ok (.goto (-26), 3) := by decide +kernel
theorem dX3_hashOfWord_46 : decode cX3_hashOfWord 46 = .ok (.ldc2_w 214, 3) := by decide +kernel
theorem dX3_hashOfWord_49 : decode cX3_hashOfWord 49 = .ok (.lload 4, 2) := by decide +kernel
theorem dX3_hashOfWord_51 : decode cX3_hashOfWord 51 = .ok (.lmul, 1) := by decide +kernel
theorem dX3_hashOfWord_52 : decode cX3_hashOfWord 52 = .ok (.aload_n 0, 1) := by decide +kernel
theorem dX3_hashOfWord_53 : decode cX3_hashOfWord 53 = .ok (.iload_n 3, 1) := by decide +kernel
theorem dX3_hashOfWord_54 : decode cX3_hashOfWord 54 = .ok (.sipush 1365, 3) := by decide +kernel
theorem dX3_hashOfWord_57 : decode cX3_hashOfWord 57 = .ok (.invokevirtual 247, 3) := by decide +kernel
theorem dX3_hashOfWord_60 : decode cX3_hashOfWord 60 = .ok (.i2l, 1) := by decide +kernel
theorem dX3_hashOfWord_61 : decode cX3_hashOfWord 61 = .ok (.ladd, 1) := by decide +kernel
theorem dX3_hashOfWord_62 : decode cX3_hashOfWord 62 = .ok (.lstore 4, 2) := by decide +kernel
theorem dX3_hashOfWord_64 : decode cX3_hashOfWord 64 = .ok (.ldc2_w 214, 3) := by decide +kernel
theorem dX3_hashOfWord_67 : decode cX3_hashOfWord 67 = .ok (.lload 4, 2) := by decide +kernel
theorem dX3_hashOfWord_69 : decode cX3_hashOfWord 69 = .ok (.lmul, 1) := by decide +kernel
theorem dX3_hashOfWord_70 : decode cX3_hashOfWord 70 = .ok (.aload_n 0, 1) := by decide +kernel
theorem dX3_hashOfWord_71 : decode cX3_hashOfWord 71 = .ok (.iload_n 3, 1) := by decide +kernel
theorem dX3_hashOfWord_72 : decode cX3_hashOfWord 72 = .ok (.invokevirtual 250, 3) := by decide +kernel
theorem dX3_hashOfWord_75 : decode cX3_hashOfWord 75 = .ok (.i2l, 1) := by decide +kernel
theorem dX3_hashOfWord_76 : decode cX3_hashOfWord 76 = .ok (.ladd, 1) := by decide +kernel
theorem dX3_hashOfWord_77 : decode cX3_hashOfWord 77 = .ok (.lreturn, 1) := by decide +kernel
set_option maxRecDepth 20000 in
theorem ggX3_hashOfSlot_X3_slot : GoodIn wsX3_hashOfSlot wsX3_slot := goodIn_ca (goodIn_ca (goodIn_r _ [6, 7, 8, 9, 10, 11, 5, 12, 13, 14, 15, 16, 17, 18, 19, 20, 21, 22, 23, 24, 25, 26, 27, 28, 29, 30, 31, 32, 33, 34, 35, 36, 37, 38, 39, 40, 41, 63, 64, 65, 66, 67, 68, 69, 70, 71, 72, 73, 74, 75, 76, 77, 78, 79] (by decide +kernel) (by decide +kernel)) (goodIn_sub (fun _ h => List.mem_cons_of_mem _ (List.mem_append_left _ (List.mem_append_right _ h))) (by decide +kernel))) (goodIn_sub (fun _ h => List.mem_cons_of_mem _ (List.mem_append_right _ h)) (by decide +kernel))
set_option maxRecDepth 20000 in
theorem gX3_hashOfSlot_X3_slot : GoodIn wsX3_hashOfSlot (wsV RX3 253 RX3 yX3_slot wsX3_slot) := goodIn_app (goodIn_of _ (by decide +kernel)) ggX3_hashOfSlot_X3_slot
set_option maxRecDepth 20000 in
theorem ggX3_hashOfSlot_X3_cost : GoodIn wsX3_hashOfSlot wsX3_cost := goodIn_ca (goodIn_ca (goodIn_r _ [45, 7, 9, 10, 11, 5, 12, 13, 14, 15, 16, 17, 46, 47, 48, 21, 22, 49, 50, 51, 26, 52, 53, 54, 30, 31, 32, 28, 33, 55, 56, 57, 58, 59, 60, 61, 62, 63, 64, 65, 66, 67, 68, 69, 70, 71, 72, 73, 74, 75, 76, 77, 78, 79] (by decide +kernel) (by decide +kernel)) (goodIn_sub (fun _ h => List.mem_cons_of_mem _ (List.mem_append_left _ (List.mem_append_right _ h))) (by decide +kernel))) (goodIn_sub (fun _ h => List.mem_cons_of_mem _ (List.mem_append_right _ h)) (by decide +kernel))
set_option maxRecDepth 20000 in
theorem gX3_hashOfSlot_X3_cost : GoodIn wsX3_hashOfSlot (wsV RX3 256 RX3 yX3_cost wsX3_cost) := goodIn_app (goodIn_of _ (by decide +kernel)) ggX3_hashOfSlot_X3_cost
theorem dX3_hashOfSlot_0 : decode cX3_hashOfSlot 0 = .ok (.lload_n 1, 1) := by decide +kernel
theorem dX3_hashOfSlot_1 : decode cX3_hashOfSlot 1 = .ok (.lstore 4, 2) := by decide +kernel
theorem dX3_hashOfSlot_3 : decode cX3_hashOfSlot 3 = .ok (.iconst 0, 1) := by decide +kernel
theorem dX3_hashOfSlot_4 : decode cX3_hashOfSlot 4 = .ok (.istore 6, 2) := by decide +kernel
theorem dX3_hashOfSlot_6 : decode cX3_hashOfSlot 6 = .ok (.iload 6, 2) := by decide +kernel
theorem dX3_hashOfSlot_8 : decode cX3_hashOfSlot 8 = .ok (.bipush 6, 2) := by decide +kernel
theorem dX3_hashOfSlot_10 : decode cX3_hashOfSlot 10 = .ok (.if_icmp .ge 26, 3) := by decide +kernel
theorem dX3_hashOfSlot_13 : decode cX3_hashOfSlot 13 = .ok (.ldc2_w 214, 3) := by decide +kernel
theorem dX3_hashOfSlot_16 : decode cX3_hashOfSlot 16 = .ok (.lload 4, 2) := by decide +kernel
theorem dX3_hashOfSlot_18 : decode cX3_hashOfSlot 18 = .ok (.lmul, 1) := by decide +kernel
theorem dX3_hashOfSlot_19 : decode cX3_hashOfSlot 19 = .ok (.aload_n 0, 1) := by decide +kernel
theorem dX3_hashOfSlot_20 : decode cX3_hashOfSlot 20 = .ok (.iload_n 3, 1) := by decide +kernel
theorem dX3_hashOfSlot_21 : decode cX3_hashOfSlot 21 = .ok (.iload 6, 2) := by decide +kernel
theorem dX3_hashOfSlot_23 : decode cX3_hashOfSlot 23 = .ok (.invokevirtual 253, 3) := by decide +kernel
theorem dX3_hashOfSlot_26 : decode cX3_hashOfSlot 26 = .ok (.i2l, 1) := by decide +kernel
theorem dX3_hashOfSlot_27 : decode cX3_hashOfSlot 27 = .ok (.ladd, 1) := by decide +kernel
theorem dX3_hashOfSlot_28 : decode cX3_hashOfSlot 28 = .ok (.lstore 4, 2) := by decide +kernel
theorem dX3_hashOfSlot_30 : decode cX3_hashOfSlot 30 = .ok (.iinc 6 1, 3) := by decide +kernel
theorem dX3_hashOfSlot_33 : decode cX3_hashOfSlot 33 = .ok (.goto (-27), 3) := by decide +kernel
theorem dX3_hashOfSlot_36 : decode cX3_hashOfSlot 36 = .ok (.ldc2_w 214, 3) := by decide +kernel
theorem dX3_hashOfSlot_39 : decode cX3_hashOfSlot 39 = .ok (.lload 4, 2) := by decide +kernel
theorem dX3_hashOfSlot_41 : decode cX3_hashOfSlot 41 = .ok (.lmul, 1) := by decide +kernel
theorem dX3_hashOfSlot_42 : decode cX3_hashOfSlot 42 = .ok (.aload_n 0, 1) := by decide +kernel
theorem dX3_hashOfSlot_43 : decode cX3_hashOfSlot 43 = .ok (.iload_n 3, 1) := by decide +kernel
theorem dX3_hashOfSlot_44 : decode cX3_hashOfSlot 44 = .ok (.sipush 2730, 3) := by decide +kernel
theorem dX3_hashOfSlot_47 : decode cX3_hashOfSlot 47 = .ok (.invokevirtual 256, 3) := by decide +kernel
theorem dX3_hashOfSlot_50 : decode cX3_hashOfSlot 50 = .ok (.i2l, 1) := by decide +kernel
theorem dX3_hashOfSlot_51 : decode cX3_hashOfSlot 51 = .ok (.ladd, 1) := by decide +kernel
theorem dX3_hashOfSlot_52 : decode cX3_hashOfSlot 52 = .ok (.lreturn, 1) := by decide +kernel
theorem dX3_bitsOf_0 : decode cX3_bitsOf 0 = .ok (.dload_n 0, 1) := by decide +kernel
theorem dX3_bitsOf_1 : decode cX3_bitsOf 1 = .ok (.dconst 0, 1) := by decide +kernel
theorem dX3_bitsOf_2 : decode cX3_bitsOf 2 = .ok (.dcmp .l, 1) := by decide +kernel
theorem dX3_bitsOf_3 : decode cX3_bitsOf 3 = .ok (.ifCond .gt 5, 3) := by decide +kernel
theorem dX3_bitsOf_6 : decode cX3_bitsOf 6 = .ok (.lconst 0, 1) := by decide +kernel
theorem dX3_bitsOf_7 : decode cX3_bitsOf 7 = .ok (.lreturn, 1) := by decide +kernel
theorem dX3_bitsOf_8 : decode cX3_bitsOf 8 = .ok (.ldc2_w 259, 3) := by decide +kernel
theorem dX3_bitsOf_11 : decode cX3_bitsOf 11 = .ok (.lstore_n 2, 1) := by decide +kernel
theorem dX3_bitsOf_12 : decode cX3_bitsOf 12 = .ok (.dload_n 0, 1) := by decide +kernel
theorem dX3_bitsOf_13 : decode cX3_bitsOf 13 = .ok (.dstore 4, 2) := by decide +kernel
theorem dX3_bitsOf_15 : decode cX3_bitsOf 15 = .ok (.iconst 0, 1) := by decide +kernel
theorem dX3_bitsOf_16 : decode cX3_bitsOf 16 = .ok (.istore 6, 2) := by decide +kernel
theorem dX3_bitsOf_18 : decode cX3_bitsOf 18 = .ok (.iload 6, 2) := by decide +kernel
theorem dX3_bitsOf_20 : decode cX3_bitsOf 20 = .ok (.sipush 1100, 3) := by decide +kernel
theorem dX3_bitsOf_23 : decode cX3_bitsOf 23 = .ok (.if_icmp .ge 30, 3) := by decide +kernel
theorem dX3_bitsOf_26 : decode cX3_bitsOf 26 = .ok (.dload 4, 2) := by decide +kernel
theorem dX3_bitsOf_28 : decode cX3_bitsOf 28 = .ok (.ldc2_w 261, 3) := by decide +kernel
theorem dX3_bitsOf_31 : decode cX3_bitsOf 31 = .ok (.dcmp .l, 1) := by decide +kernel
theorem dX3_bitsOf_32 : decode cX3_bitsOf 32 = .ok (.ifCond .lt 21, 3) := by decide +kernel
theorem dX3_bitsOf_35 : decode cX3_bitsOf 35 = .ok (.dload 4, 2) := by decide +kernel
theorem dX3_bitsOf_37 : decode cX3_bitsOf 37 = .ok (.ldc2_w 261, 3) := by decide +kernel
theorem dX3_bitsOf_40 : decode cX3_bitsOf 40 = .ok (.ddiv, 1) := by decide +kernel
theorem dX3_bitsOf_41 : decode cX3_bitsOf 41 = .ok (.dstore 4, 2) := by decide +kernel
theorem dX3_bitsOf_43 : decode cX3_bitsOf 43 = .ok (.lload_n 2, 1) := by decide +kernel
theorem dX3_bitsOf_44 : decode cX3_bitsOf 44 = .ok (.lconst 1, 1) := by decide +kernel
theorem dX3_bitsOf_45 : decode cX3_bitsOf 45 = .ok (.ladd, 1) := by decide +kernel
theorem dX3_bitsOf_46 : decode cX3_bitsOf 46 = .ok (.lstore_n 2, 1) := by decide +kernel
theorem dX3_bitsOf_47 : decode cX3_bitsOf 47 = .ok (.iinc 6 1, 3) := by decide +kernel
theorem dX3_bitsOf_50 : decode cX3_bitsOf 50 = .ok (.goto (-32), 3) := by decide +kernel
theorem dX3_bitsOf_53 : decode cX3_bitsOf 53 = .ok (.iconst 0, 1) := by decide +kernel
theorem dX3_bitsOf_54 : decode cX3_bitsOf 54 = .ok (.istore 6, 2) := by decide +kernel
theorem dX3_bitsOf_56 : decode cX3_bitsOf 56 = .ok (.iload 6, 2) := by decide +kernel
theorem dX3_bitsOf_58 : decode cX3_bitsOf 58 = .ok (.sipush 1100, 3) := by decide +kernel
theorem dX3_bitsOf_61 : decode cX3_bitsOf 61 = .ok (.if_icmp .ge 28, 3) := by decide +kernel
theorem dX3_bitsOf_64 : decode cX3_bitsOf 64 = .ok (.dload 4, 2) := by decide +kernel
theorem dX3_bitsOf_66 : decode cX3_bitsOf 66 = .ok (.dconst 1, 1) := by decide +kernel
theorem dX3_bitsOf_67 : decode cX3_bitsOf 67 = .ok (.dcmp .g, 1) := by decide +kernel
theorem dX3_bitsOf_68 : decode cX3_bitsOf 68 = .ok (.ifCond .ge 21, 3) := by decide +kernel
theorem dX3_bitsOf_71 : decode cX3_bitsOf 71 = .ok (.dload 4, 2) := by decide +kernel
theorem dX3_bitsOf_73 : decode cX3_bitsOf 73 = .ok (.ldc2_w 261, 3) := by decide +kernel
theorem dX3_bitsOf_76 : decode cX3_bitsOf 76 = .ok (.dmul, 1) := by decide +kernel
theorem dX3_bitsOf_77 : decode cX3_bitsOf 77 = .ok (.dstore 4, 2) := by decide +kernel
theorem dX3_bitsOf_79 : decode cX3_bitsOf 79 = .ok (.lload_n 2, 1) := by decide +kernel
theorem dX3_bitsOf_80 : decode cX3_bitsOf 80 = .ok (.lconst 1, 1) := by decide +kernel
theorem dX3_bitsOf_81 : decode cX3_bitsOf 81 = .ok (.lsub, 1) := by decide +kernel
theorem dX3_bitsOf_82 : decode cX3_bitsOf 82 = .ok (.lstore_n 2, 1) := by decide +kernel
theorem dX3_bitsOf_83 : decode cX3_bitsOf 83 = .ok (.iinc 6 1, 3) := by decide +kernel
theorem dX3_bitsOf_86 : decode cX3_bitsOf 86 = .ok (.goto (-30), 3) := by decide +kernel
theorem dX3_bitsOf_89 : decode cX3_bitsOf 89 = .ok (.dload 4, 2) := by decide +kernel
theorem dX3_bitsOf_91 : decode cX3_bitsOf 91 = .ok (.dconst 1, 1) := by decide +kernel
theorem dX3_bitsOf_92 : decode cX3_bitsOf 92 = .ok (.dsub, 1) := by decide +kernel
theorem dX3_bitsOf_93 : decode cX3_bitsOf 93 = .ok (.ldc2_w 263, 3) := by decide +kernel
theorem dX3_bitsOf_96 : decode cX3_bitsOf 96 = .ok (.dmul, 1) := by decide +kernel
theorem dX3_bitsOf_97 : decode cX3_bitsOf 97 = .ok (.d2l, 1) := by decide +kernel
theorem dX3_bitsOf_98 : decode cX3_bitsOf 98 = .ok (.lstore 6, 2) := by decide +kernel
theorem dX3_bitsOf_100 : decode cX3_bitsOf 100 = .ok (.lload_n 2, 1) := by decide +kernel
theorem dX3_bitsOf_101 : decode cX3_bitsOf 101 = .ok (.bipush 52, 2) := by decide +kernel
theorem dX3_bitsOf_103 : decode cX3_bitsOf 103 = .ok (.lshl, 1) := by decide +kernel
theorem dX3_bitsOf_104 : decode cX3_bitsOf 104 = .ok (.lload 6, 2) := by decide +kernel
theorem dX3_bitsOf_106 : decode cX3_bitsOf 106 = .ok (.lor, 1) := by decide +kernel
theorem dX3_bitsOf_107 : decode cX3_bitsOf 107 = .ok (.lreturn, 1) := by decide +kernel
set_option maxRecDepth 20000 in
theorem ggX3_placeParsed_X1_targetOf : GoodIn wsX3_placeParsed wsX1_targetOf := goodIn_r _ [10, 11, 12, 13, 14, 9, 15, 16, 17, 18, 19, 20, 21, 22, 23, 24, 25, 26, 27, 28, 29, 30, 31, 32, 33, 34, 35, 36, 37, 38, 39, 40, 41, 42, 43, 44, 45, 46, 47, 86, 87, 88, 89, 90, 91, 92, 93, 94, 95, 96, 97, 98] (by decide +kernel) (by decide +kernel)
set_option maxRecDepth 20000 in
theorem gX3_placeParsed_X1_targetOf : GoodIn wsX3_placeParsed (wsV RX3 40 RX1 yX1_targetOf wsX1_targetOf) := goodIn_app (goodIn_of _ (by decide +kernel)) ggX3_placeParsed_X1_targetOf
set_option maxRecDepth 20000 in
theorem ggX3_placeParsed_X1_place : GoodIn wsX3_placeParsed wsX1_place := goodIn_r _ [51, 16, 52, 53, 54, 55, 12, 13, 14, 9, 15, 17, 18, 19, 20, 21, 22, 23, 24, 25, 26, 27, 28, 29, 56, 57, 58, 59, 11, 60, 61, 62, 63, 64, 65, 66, 67, 68, 69, 70, 71, 72, 34, 39, 73, 74, 86, 87, 88, 89, 90, 91, 92, 93, 94, 95, 96, 97, 98] (by decide +kernel) (by decide +kernel)
set_option maxRecDepth 20000 in
theorem gX3_placeParsed_X1_place : GoodIn wsX3_placeParsed (wsV RX3 55 RX1 yX1_place wsX1_place) := goodIn_app (goodIn_of _ (by decide +kernel)) ggX3_placeParsed_X1_place
theorem dX3_placeParsed_0 : decode cX3_placeParsed 0 = .ok (.iconst 0, 1) := by decide +kernel
theorem dX3_placeParsed_1 : decode cX3_placeParsed 1 = .ok (.istore_n 1, 1) := by decide +kernel
theorem dX3_placeParsed_2 : decode cX3_placeParsed 2 = .ok (.iload_n 1, 1) := by decide +kernel
theorem dX3_placeParsed_3 : decode cX3_placeParsed 3 = .ok (.aload_n 0, 1) := by decide +kernel
theorem dX3_placeParsed_4 : decode cX3_placeParsed 4 = .ok (.getfield 29, 3) := by decide +kernel
theorem dX3_placeParsed_7 : decode cX3_placeParsed 7 = .ok (.getfield 265, 3) := by decide +kernel
theorem dX3_placeParsed_10 : decode cX3_placeParsed 10 = .ok (.if_icmp .ge 60, 3) := by decide +kernel
theorem dX3_placeParsed_13 : decode cX3_placeParsed 13 = .ok (.aload_n 0, 1) := by decide +kernel
theorem dX3_placeParsed_14 : decode cX3_placeParsed 14 = .ok (.getfield 29, 3) := by decide +kernel
theorem dX3_placeParsed_17 : decode cX3_placeParsed 17 = .ok (.getfield 268, 3) := by decide +kernel
theorem dX3_placeParsed_20 : decode cX3_placeParsed 20 = .ok (.iload_n 1, 1) := by decide +kernel
theorem dX3_placeParsed_21 : decode cX3_placeParsed 21 = .ok (.iaload, 1) := by decide +kernel
theorem dX3_placeParsed_22 : decode cX3_placeParsed 22 = .ok (.istore_n 2, 1) := by decide +kernel
theorem dX3_placeParsed_23 : decode cX3_placeParsed 23 = .ok (.aload_n 0, 1) := by decide +kernel
theorem dX3_placeParsed_24 : decode cX3_placeParsed 24 = .ok (.getfield 29, 3) := by decide +kernel
theorem dX3_placeParsed_27 : decode cX3_placeParsed 27 = .ok (.getfield 271, 3) := by decide +kernel
theorem dX3_placeParsed_30 : decode cX3_placeParsed 30 = .ok (.iload_n 1, 1) := by decide +kernel
theorem dX3_placeParsed_31 : decode cX3_placeParsed 31 = .ok (.iaload, 1) := by decide +kernel
theorem dX3_placeParsed_32 : decode cX3_placeParsed 32 = .ok (.istore_n 3, 1) := by decide +kernel
theorem dX3_placeParsed_33 : decode cX3_placeParsed 33 = .ok (.aload_n 0, 1) := by decide +kernel
theorem dX3_placeParsed_34 : decode cX3_placeParsed 34 = .ok (.getfield 10, 3) := by decide +kernel
theorem dX3_placeParsed_37 : decode cX3_placeParsed 37 = .ok (.iload_n 2, 1) := by decide +kernel
theorem dX3_placeParsed_38 : decode cX3_placeParsed 38 = .ok (.iload_n 3, 1) := by decide +kernel
theorem dX3_placeParsed_39 : decode cX3_placeParsed 39 = .ok (.invokevirtual 40, 3) := by decide +kernel
theorem dX3_placeParsed_42 : decode cX3_placeParsed 42 = .ok (.istore 4, 2) := by decide +kernel
theorem dX3_placeParsed_44 : decode cX3_placeParsed 44 = .ok (.iload 4, 2) := by decide +kernel
theorem dX3_placeParsed_46 : decode cX3_placeParsed 46 = .ok (.iconst (-1), 1) := by decide +kernel
theorem dX3_placeParsed_47 : decode cX3_placeParsed 47 = .ok (.if_icmp .ne 5, 3) := by decide +kernel
theorem dX3_placeParsed_50 : decode cX3_placeParsed 50 = .ok (.iload_n 1, 1) := by decide +kernel
theorem dX3_placeParsed_51 : decode cX3_placeParsed 51 = .ok (.ireturn, 1) := by decide +kernel
theorem dX3_placeParsed_52 : decode cX3_placeParsed 52 = .ok (.aload_n 0, 1) := by decide +kernel
theorem dX3_placeParsed_53 : decode cX3_placeParsed 53 = .ok (.getfield 10, 3) := by decide +kernel
theorem dX3_placeParsed_56 : decode cX3_placeParsed 56 = .ok (.iload_n 2, 1) := by decide +kernel
theorem dX3_placeParsed_57 : decode cX3_placeParsed 57 = .ok (.iload_n 3, 1) := by decide +kernel
theorem dX3_placeParsed_58 : decode cX3_placeParsed 58 = .ok (.iload 4, 2) := by decide +kernel
theorem dX3_placeParsed_60 : decode cX3_placeParsed 60 = .ok (.invokevirtual 55, 3) := by decide +kernel
theorem dX3_placeParsed_63 : decode cX3_placeParsed 63 = .ok (.pop, 1) := by decide +kernel
theorem dX3_placeParsed_64 : decode cX3_placeParsed 64 = .ok (.iinc 1 1, 3) := by decide +kernel
theorem dX3_placeParsed_67 : decode cX3_placeParsed 67 = .ok (.goto (-65), 3) := by decide +kernel
theorem dX3_placeParsed_70 : decode cX3_placeParsed 70 = .ok (.aload_n 0, 1) := by decide +kernel
theorem dX3_placeParsed_71 : decode cX3_placeParsed 71 = .ok (.getfield 29, 3) := by decide +kernel
theorem dX3_placeParsed_74 : decode cX3_placeParsed 74 = .ok (.getfield 265, 3) := by decide +kernel
theorem dX3_placeParsed_77 : decode cX3_placeParsed 77 = .ok (.ireturn, 1) := by decide +kernel
theorem dX3_isOutside_0 : decode cX3_isOutside 0 = .ok (.iload_n 0, 1) := by decide +kernel
theorem dX3_isOutside_1 : decode cX3_isOutside 1 = .ok (.iload_n 1, 1) := by decide +kernel
theorem dX3_isOutside_2 : decode cX3_isOutside 2 = .ok (.if_icmp .lt 8, 3) := by decide +kernel
theorem dX3_isOutside_5 : decode cX3_isOutside 5 = .ok (.iload_n 0, 1) := by decide +kernel
theorem dX3_isOutside_6 : decode cX3_isOutside 6 = .ok (.iload_n 2, 1) := by decide +kernel
theorem dX3_isOutside_7 : decode cX3_isOutside 7 = .ok (.if_icmp .le 7, 3) := by decide +kernel
theorem dX3_isOutside_10 : decode cX3_isOutside 10 = .ok (.iconst 1, 1) := by decide +kernel
theorem dX3_isOutside_11 : decode cX3_isOutside 11 = .ok (.goto 4, 3) := by decide +kernel
theorem dX3_isOutside_14 : decode cX3_isOutside 14 = .ok (.iconst 0, 1) := by decide +kernel
theorem dX3_isOutside_15 : decode cX3_isOutside 15 = .ok (.ireturn, 1) := by decide +kernel
set_option maxRecDepth 20000 in
theorem ggX3_needWord_X3_isOutside : GoodIn wsX3_needWord wsX3_isOutside := goodIn_r _ [6] (by decide +kernel) (by decide +kernel)
set_option maxRecDepth 20000 in
theorem gX3_needWord_X3_isOutside : GoodIn wsX3_needWord (va_wsS RX3 59 yX3_isOutside wsX3_isOutside) := goodIn_app (goodIn_of _ (by decide +kernel)) ggX3_needWord_X3_isOutside
theorem dX3_needWord_0 : decode cX3_needWord 0 = .ok (.iload_n 0, 1) := by decide +kernel
theorem dX3_needWord_1 : decode cX3_needWord 1 = .ok (.iconst 0, 1) := by decide +kernel
theorem dX3_needWord_2 : decode cX3_needWord 2 = .ok (.bipush 15, 2) := by decide +kernel
theorem dX3_needWord_4 : decode cX3_needWord 4 = .ok (.invokestatic 59, 3) := by decide +kernel
theorem dX3_needWord_7 : decode cX3_needWord 7 = .ok (.ifCond .eq 14, 3) := by decide +kernel
theorem dX3_needWord_10 : decode cX3_needWord 10 = .ok (.new 274, 3) := by decide +kernel
theorem dX3_needWord_13 : decode cX3_needWord 13 = .ok (.dup, 1) := by decide +kernel
theorem dX3_needWord_14 : decode cX3_needWord 14 = .ok (.ldc_w 276, 3) := by decide +kernel
theorem dX3_needWord_17 : decode cX3_needWord 17 = .ok (.invokespecial 278, 3) := by decide +kernel
theorem dX3_needWord_20 : decode cX3_needWord 20 = .ok (.athrow, 1) := by decide +kernel
theorem dX3_needWord_21 : decode cX3_needWord 21 = .ok (.return_, 1) := by decide +kernel
set_option maxRecDepth 20000 in
theorem ggX3_needSlot_X3_isOutside : GoodIn wsX3_needSlot wsX3_isOutside := goodIn_r _ [6] (by decide +kernel) (by decide +kernel)
set_option maxRecDepth 20000 in
theorem gX3_needSlot_X3_isOutside : GoodIn wsX3_needSlot (va_wsS RX3 59 yX3_isOutside wsX3_isOutside) := goodIn_app (goodIn_of _ (by decide +kernel)) ggX3_needSlot_X3_isOutside
theorem dX3_needSlot_0 : decode cX3_needSlot 0 = .ok (.iload_n 0, 1) := by decide +kernel
theorem dX3_needSlot_1 : decode cX3_needSlot 1 = .ok (.iconst 0, 1) := by decide +kernel
theorem dX3_needSlot_2 : decode cX3_needSlot 2 = .ok (.bipush 17, 2) := by decide +kernel
theorem dX3_needSlot_4 : decode cX3_needSlot 4 = .ok (.invokestatic 59, 3) := by decide +kernel
theorem dX3_needSlot_7 : decode cX3_needSlot 7 = .ok (.ifCond .eq 14, 3) := by decide +kernel
theorem dX3_needSlot_10 : decode cX3_needSlot 10 = .ok (.new 274, 3) := by decide +kernel
theorem dX3_needSlot_13 : decode cX3_needSlot 13 = .ok (.dup, 1) := by decide +kernel
theorem dX3_needSlot_14 : decode cX3_needSlot 14 = .ok (.ldc_w 279, 3) := by decide +kernel
theorem dX3_needSlot_17 : decode cX3_needSlot 17 = .ok (.invokespecial 278, 3) := by decide +kernel
theorem dX3_needSlot_20 : decode cX3_needSlot 20 = .ok (.athrow, 1) := by decide +kernel
theorem dX3_needSlot_21 : decode cX3_needSlot 21 = .ok (.return_, 1) := by decide +kernel
set_option maxRecDepth 20000 in
theorem ggX3_needCell_X3_isOutside : GoodIn wsX3_needCell wsX3_isOutside := goodIn_r _ [6] (by decide +kernel) (by decide +kernel)
set_option maxRecDepth 20000 in
theorem gX3_needCell_X3_isOutside : GoodIn wsX3_needCell (va_wsS RX3 59 yX3_isOutside wsX3_isOutside) := goodIn_app (goodIn_of _ (by decide +kernel)) ggX3_needCell_X3_isOutside
theorem dX3_needCell_0 : decode cX3_needCell 0 = .ok (.iload_n 0, 1) := by decide +kernel
theorem dX3_needCell_1 : decode cX3_needCell 1 = .ok (.iconst 0, 1) := by decide +kernel
theorem dX3_needCell_2 : decode cX3_needCell 2 = .ok (.bipush 12, 2) := by decide +kernel
theorem dX3_needCell_4 : decode cX3_needCell 4 = .ok (.invokestatic 59, 3) := by decide +kernel
theorem dX3_needCell_7 : decode cX3_needCell 7 = .ok (.ifCond .eq 14, 3) := by decide +kernel
theorem dX3_needCell_10 : decode cX3_needCell 10 = .ok (.new 274, 3) := by decide +kernel
theorem dX3_needCell_13 : decode cX3_needCell 13 = .ok (.dup, 1) := by decide +kernel
theorem dX3_needCell_14 : decode cX3_needCell 14 = .ok (.ldc_w 281, 3) := by decide +kernel
theorem dX3_needCell_17 : decode cX3_needCell 17 = .ok (.invokespecial 278, 3) := by decide +kernel
theorem dX3_needCell_20 : decode cX3_needCell 20 = .ok (.athrow, 1) := by decide +kernel
theorem dX3_needCell_21 : decode cX3_needCell 21 = .ok (.return_, 1) := by decide +kernel
set_option maxRecDepth 20000 in
theorem ggX3_needSetting_X3_isOutside : GoodIn wsX3_needSetting wsX3_isOutside := goodIn_r _ [6] (by decide +kernel) (by decide +kernel)
set_option maxRecDepth 20000 in
theorem gX3_needSetting_X3_isOutside : GoodIn wsX3_needSetting (va_wsS RX3 59 yX3_isOutside wsX3_isOutside) := goodIn_app (goodIn_of _ (by decide +kernel)) ggX3_needSetting_X3_isOutside
theorem dX3_needSetting_0 : decode cX3_needSetting 0 = .ok (.iload_n 0, 1) := by decide +kernel
theorem dX3_needSetting_1 : decode cX3_needSetting 1 = .ok (.iconst 0, 1) := by decide +kernel
theorem dX3_needSetting_2 : decode cX3_needSetting 2 = .ok (.iconst 1, 1) := by decide +kernel
theorem dX3_needSetting_3 : decode cX3_needSetting 3 = .ok (.invokestatic 59, 3) := by decide +kernel
theorem dX3_needSetting_6 : decode cX3_needSetting 6 = .ok (.ifCond .eq 14, 3) := by decide +kernel
theorem dX3_needSetting_9 : decode cX3_needSetting 9 = .ok (.new 274, 3) := by decide +kernel
theorem dX3_needSetting_12 : decode cX3_needSetting 12 = .ok (.dup, 1) := by decide +kernel
theorem dX3_needSetting_13 : decode cX3_needSetting 13 = .ok (.ldc_w 283, 3) := by decide +kernel
theorem dX3_needSetting_16 : decode cX3_needSetting 16 = .ok (.invokespecial 278, 3) := by decide +kernel
theorem dX3_needSetting_19 : decode cX3_needSetting 19 = .ok (.athrow, 1) := by decide +kernel
theorem dX3_needSetting_20 : decode cX3_needSetting 20 = .ok (.return_, 1) := by decide +kernel
set_option maxRecDepth 20000 in
theorem ggX3_needNumber_X3_isOutside : GoodIn wsX3_needNumber wsX3_isOutside := goodIn_r _ [6] (by decide +kernel) (by decide +kernel)
set_option maxRecDepth 20000 in
theorem gX3_needNumber_X3_isOutside : GoodIn wsX3_needNumber (va_wsS RX3 59 yX3_isOutside wsX3_isOutside) := goodIn_app (goodIn_of _ (by decide +kernel)) ggX3_needNumber_X3_isOutside
theorem dX3_needNumber_0 : decode cX3_needNumber 0 = .ok (.iload_n 0, 1) := by decide +kernel
theorem dX3_needNumber_1 : decode cX3_needNumber 1 = .ok (.iconst 0, 1) := by decide +kernel
theorem dX3_needNumber_2 : decode cX3_needNumber 2 = .ok (.sipush 4095, 3) := by decide +kernel
theorem dX3_needNumber_5 : decode cX3_needNumber 5 = .ok (.invokestatic 59, 3) := by decide +kernel
theorem dX3_needNumber_8 : decode cX3_needNumber 8 = .ok (.ifCond .eq 14, 3) := by decide +kernel
theorem dX3_needNumber_11 : decode cX3_needNumber 11 = .ok (.new 63, 3) := by decide +kernel
theorem dX3_needNumber_14 : decode cX3_needNumber 14 = .ok (.dup, 1) := by decide +kernel
theorem dX3_needNumber_15 : decode cX3_needNumber 15 = .ok (.ldc_w 285, 3) := by decide +kernel
theorem dX3_needNumber_18 : decode cX3_needNumber 18 = .ok (.invokespecial 67, 3) := by decide +kernel
theorem dX3_needNumber_21 : decode cX3_needNumber 21 = .ok (.athrow, 1) := by decide +kernel
theorem dX3_needNumber_22 : decode cX3_needNumber 22 = .ok (.return_, 1) := by decide +kernel
set_option maxRecDepth 20000 in
theorem ggX3_needWhat_X3_isOutside : GoodIn wsX3_needWhat wsX3_isOutside := goodIn_r _ [6] (by decide +kernel) (by decide +kernel)
set_option maxRecDepth 20000 in
theorem gX3_needWhat_X3_isOutside : GoodIn wsX3_needWhat (va_wsS RX3 59 yX3_isOutside wsX3_isOutside) := goodIn_app (goodIn_of _ (by decide +kernel)) ggX3_needWhat_X3_isOutside
theorem dX3_needWhat_0 : decode cX3_needWhat 0 = .ok (.iload_n 0, 1) := by decide +kernel
theorem dX3_needWhat_1 : decode cX3_needWhat 1 = .ok (.iconst 0, 1) := by decide +kernel
theorem dX3_needWhat_2 : decode cX3_needWhat 2 = .ok (.iload_n 1, 1) := by decide +kernel
theorem dX3_needWhat_3 : decode cX3_needWhat 3 = .ok (.iconst 1, 1) := by decide +kernel
theorem dX3_needWhat_4 : decode cX3_needWhat 4 = .ok (.isub, 1) := by decide +kernel
theorem dX3_needWhat_5 : decode cX3_needWhat 5 = .ok (.invokestatic 59, 3) := by decide +kernel
theorem dX3_needWhat_8 : decode cX3_needWhat 8 = .ok (.ifCond .eq 14, 3) := by decide +kernel
theorem dX3_needWhat_11 : decode cX3_needWhat 11 = .ok (.new 63, 3) := by decide +kernel
theorem dX3_needWhat_14 : decode cX3_needWhat 14 = .ok (.dup, 1) := by decide +kernel
theorem dX3_needWhat_15 : decode cX3_needWhat 15 = .ok (.ldc_w 287, 3) := by decide +kernel
theorem dX3_needWhat_18 : decode cX3_needWhat 18 = .ok (.invokespecial 67, 3) := by decide +kernel
theorem dX3_needWhat_21 : decode cX3_needWhat 21 = .ok (.athrow, 1) := by decide +kernel
theorem dX3_needWhat_22 : decode cX3_needWhat 22 = .ok (.return_, 1) := by decide +kernel
