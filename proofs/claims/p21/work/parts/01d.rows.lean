theorem dX0_init_0 : decode cX0_init 0 = .ok (.aload_n 0, 1) := by decide +kernel
theorem dX0_init_1 : decode cX0_init 1 = .ok (.invokespecial 3, 3) := by decide +kernel
theorem dX0_init_4 : decode cX0_init 4 = .ok (.aload_n 0, 1) := by decide +kernel
theorem dX0_init_5 : decode cX0_init 5 = .ok (.iconst 0, 1) := by decide +kernel
theorem dX0_init_6 : decode cX0_init 6 = .ok (.putfield 9, 3) := by decide +kernel
theorem dX0_init_9 : decode cX0_init 9 = .ok (.aload_n 0, 1) := by decide +kernel
theorem dX0_init_10 : decode cX0_init 10 = .ok (.bipush 60, 2) := by decide +kernel
theorem dX0_init_12 : decode cX0_init 12 = .ok (.newarray .int, 2) := by decide +kernel
theorem dX0_init_14 : decode cX0_init 14 = .ok (.putfield 15, 3) := by decide +kernel
theorem dX0_init_17 : decode cX0_init 17 = .ok (.aload_n 0, 1) := by decide +kernel
theorem dX0_init_18 : decode cX0_init 18 = .ok (.bipush 60, 2) := by decide +kernel
theorem dX0_init_20 : decode cX0_init 20 = .ok (.newarray .int, 2) := by decide +kernel
theorem dX0_init_22 : decode cX0_init 22 = .ok (.putfield 19, 3) := by decide +kernel
theorem dX0_init_25 : decode cX0_init 25 = .ok (.aload_n 0, 1) := by decide +kernel
theorem dX0_init_26 : decode cX0_init 26 = .ok (.bipush 60, 2) := by decide +kernel
theorem dX0_init_28 : decode cX0_init 28 = .ok (.newarray .boolean, 2) := by decide +kernel
theorem dX0_init_30 : decode cX0_init 30 = .ok (.putfield 22, 3) := by decide +kernel
theorem dX0_init_33 : decode cX0_init 33 = .ok (.aload_n 0, 1) := by decide +kernel
theorem dX0_init_34 : decode cX0_init 34 = .ok (.iconst 3, 1) := by decide +kernel
theorem dX0_init_35 : decode cX0_init 35 = .ok (.bipush 60, 2) := by decide +kernel
theorem dX0_init_37 : decode cX0_init 37 = .ok (.multianewarray 26 2, 4) := by decide +kernel
theorem dX0_init_41 : decode cX0_init 41 = .ok (.putfield 28, 3) := by decide +kernel
theorem dX0_init_44 : decode cX0_init 44 = .ok (.aload_n 0, 1) := by decide +kernel
theorem dX0_init_45 : decode cX0_init 45 = .ok (.iconst 2, 1) := by decide +kernel
theorem dX0_init_46 : decode cX0_init 46 = .ok (.bipush 60, 2) := by decide +kernel
theorem dX0_init_48 : decode cX0_init 48 = .ok (.multianewarray 26 2, 4) := by decide +kernel
theorem dX0_init_52 : decode cX0_init 52 = .ok (.putfield 31, 3) := by decide +kernel
theorem dX0_init_55 : decode cX0_init 55 = .ok (.aload_n 0, 1) := by decide +kernel
theorem dX0_init_56 : decode cX0_init 56 = .ok (.bipush 60, 2) := by decide +kernel
theorem dX0_init_58 : decode cX0_init 58 = .ok (.bipush 60, 2) := by decide +kernel
theorem dX0_init_60 : decode cX0_init 60 = .ok (.multianewarray 26 2, 4) := by decide +kernel
theorem dX0_init_64 : decode cX0_init 64 = .ok (.putfield 34, 3) := by decide +kernel
theorem dX0_init_67 : decode cX0_init 67 = .ok (.return_, 1) := by decide +kernel
theorem dX0_take_0 : decode cX0_take 0 = .ok (.aload_n 0, 1) := by decide +kernel
theorem dX0_take_1 : decode cX0_take 1 = .ok (.getfield 9, 3) := by decide +kernel
theorem dX0_take_4 : decode cX0_take 4 = .ok (.istore_n 3, 1) := by decide +kernel
theorem dX0_take_5 : decode cX0_take 5 = .ok (.aload_n 0, 1) := by decide +kernel
theorem dX0_take_6 : decode cX0_take 6 = .ok (.getfield 15, 3) := by decide +kernel
theorem dX0_take_9 : decode cX0_take 9 = .ok (.iload_n 3, 1) := by decide +kernel
theorem dX0_take_10 : decode cX0_take 10 = .ok (.iload_n 1, 1) := by decide +kernel
theorem dX0_take_11 : decode cX0_take 11 = .ok (.iastore, 1) := by decide +kernel
theorem dX0_take_12 : decode cX0_take 12 = .ok (.aload_n 0, 1) := by decide +kernel
theorem dX0_take_13 : decode cX0_take 13 = .ok (.getfield 19, 3) := by decide +kernel
theorem dX0_take_16 : decode cX0_take 16 = .ok (.iload_n 3, 1) := by decide +kernel
theorem dX0_take_17 : decode cX0_take 17 = .ok (.iload_n 2, 1) := by decide +kernel
theorem dX0_take_18 : decode cX0_take 18 = .ok (.iastore, 1) := by decide +kernel
theorem dX0_take_19 : decode cX0_take 19 = .ok (.aload_n 0, 1) := by decide +kernel
theorem dX0_take_20 : decode cX0_take 20 = .ok (.dup, 1) := by decide +kernel
theorem dX0_take_21 : decode cX0_take 21 = .ok (.getfield 9, 3) := by decide +kernel
theorem dX0_take_24 : decode cX0_take 24 = .ok (.iconst 1, 1) := by decide +kernel
theorem dX0_take_25 : decode cX0_take 25 = .ok (.iadd, 1) := by decide +kernel
theorem dX0_take_26 : decode cX0_take 26 = .ok (.putfield 9, 3) := by decide +kernel
theorem dX0_take_29 : decode cX0_take 29 = .ok (.iload_n 3, 1) := by decide +kernel
theorem dX0_take_30 : decode cX0_take 30 = .ok (.ireturn, 1) := by decide +kernel
theorem dX0_putMarks_0 : decode cX0_putMarks 0 = .ok (.aload_n 0, 1) := by decide +kernel
theorem dX0_putMarks_1 : decode cX0_putMarks 1 = .ok (.getfield 28, 3) := by decide +kernel
theorem dX0_putMarks_4 : decode cX0_putMarks 4 = .ok (.iconst 0, 1) := by decide +kernel
theorem dX0_putMarks_5 : decode cX0_putMarks 5 = .ok (.aaload, 1) := by decide +kernel
theorem dX0_putMarks_6 : decode cX0_putMarks 6 = .ok (.iload_n 1, 1) := by decide +kernel
theorem dX0_putMarks_7 : decode cX0_putMarks 7 = .ok (.iload_n 2, 1) := by decide +kernel
theorem dX0_putMarks_8 : decode cX0_putMarks 8 = .ok (.iastore, 1) := by decide +kernel
theorem dX0_putMarks_9 : decode cX0_putMarks 9 = .ok (.aload_n 0, 1) := by decide +kernel
theorem dX0_putMarks_10 : decode cX0_putMarks 10 = .ok (.getfield 28, 3) := by decide +kernel
theorem dX0_putMarks_13 : decode cX0_putMarks 13 = .ok (.iconst 1, 1) := by decide +kernel
theorem dX0_putMarks_14 : decode cX0_putMarks 14 = .ok (.aaload, 1) := by decide +kernel
theorem dX0_putMarks_15 : decode cX0_putMarks 15 = .ok (.iload_n 1, 1) := by decide +kernel
theorem dX0_putMarks_16 : decode cX0_putMarks 16 = .ok (.iload_n 3, 1) := by decide +kernel
theorem dX0_putMarks_17 : decode cX0_putMarks 17 = .ok (.iastore, 1) := by decide +kernel
theorem dX0_putMarks_18 : decode cX0_putMarks 18 = .ok (.aload_n 0, 1) := by decide +kernel
theorem dX0_putMarks_19 : decode cX0_putMarks 19 = .ok (.getfield 28, 3) := by decide +kernel
theorem dX0_putMarks_22 : decode cX0_putMarks 22 = .ok (.iconst 2, 1) := by decide +kernel
theorem dX0_putMarks_23 : decode cX0_putMarks 23 = .ok (.aaload, 1) := by decide +kernel
theorem dX0_putMarks_24 : decode cX0_putMarks 24 = .ok (.iload_n 1, 1) := by decide +kernel
theorem dX0_putMarks_25 : decode cX0_putMarks 25 = .ok (.iload 4, 2) := by decide +kernel
theorem dX0_putMarks_27 : decode cX0_putMarks 27 = .ok (.iastore, 1) := by decide +kernel
theorem dX0_putMarks_28 : decode cX0_putMarks 28 = .ok (.return_, 1) := by decide +kernel
theorem dX0_putAttributes_0 : decode cX0_putAttributes 0 = .ok (.aload_n 0, 1) := by decide +kernel
theorem dX0_putAttributes_1 : decode cX0_putAttributes 1 = .ok (.getfield 31, 3) := by decide +kernel
theorem dX0_putAttributes_4 : decode cX0_putAttributes 4 = .ok (.iconst 0, 1) := by decide +kernel
theorem dX0_putAttributes_5 : decode cX0_putAttributes 5 = .ok (.aaload, 1) := by decide +kernel
theorem dX0_putAttributes_6 : decode cX0_putAttributes 6 = .ok (.iload_n 1, 1) := by decide +kernel
theorem dX0_putAttributes_7 : decode cX0_putAttributes 7 = .ok (.iload_n 2, 1) := by decide +kernel
theorem dX0_putAttributes_8 : decode cX0_putAttributes 8 = .ok (.iastore, 1) := by decide +kernel
theorem dX0_putAttributes_9 : decode cX0_putAttributes 9 = .ok (.aload_n 0, 1) := by decide +kernel
theorem dX0_putAttributes_10 : decode cX0_putAttributes 10 = .ok (.getfield 31, 3) := by decide +kernel
theorem dX0_putAttributes_13 : decode cX0_putAttributes 13 = .ok (.iconst 1, 1) := by decide +kernel
theorem dX0_putAttributes_14 : decode cX0_putAttributes 14 = .ok (.aaload, 1) := by decide +kernel
theorem dX0_putAttributes_15 : decode cX0_putAttributes 15 = .ok (.iload_n 1, 1) := by decide +kernel
theorem dX0_putAttributes_16 : decode cX0_putAttributes 16 = .ok (.iload_n 3, 1) := by decide +kernel
theorem dX0_putAttributes_17 : decode cX0_putAttributes 17 = .ok (.iastore, 1) := by decide +kernel
theorem dX0_putAttributes_18 : decode cX0_putAttributes 18 = .ok (.return_, 1) := by decide +kernel
theorem dX0_standsOn_0 : decode cX0_standsOn 0 = .ok (.aload_n 0, 1) := by decide +kernel
theorem dX0_standsOn_1 : decode cX0_standsOn 1 = .ok (.getfield 22, 3) := by decide +kernel
theorem dX0_standsOn_4 : decode cX0_standsOn 4 = .ok (.iload_n 1, 1) := by decide +kernel
theorem dX0_standsOn_5 : decode cX0_standsOn 5 = .ok (.baload, 1) := by decide +kernel
theorem dX0_standsOn_6 : decode cX0_standsOn 6 = .ok (.ifCond .ne 39, 3) := by decide +kernel
theorem dX0_standsOn_9 : decode cX0_standsOn 9 = .ok (.aload_n 0, 1) := by decide +kernel
theorem dX0_standsOn_10 : decode cX0_standsOn 10 = .ok (.getfield 19, 3) := by decide +kernel
theorem dX0_standsOn_13 : decode cX0_standsOn 13 = .ok (.iload_n 1, 1) := by decide +kernel
theorem dX0_standsOn_14 : decode cX0_standsOn 14 = .ok (.iaload, 1) := by decide +kernel
theorem dX0_standsOn_15 : decode cX0_standsOn 15 = .ok (.iload_n 2, 1) := by decide +kernel
theorem dX0_standsOn_16 : decode cX0_standsOn 16 = .ok (.if_icmp .gt 29, 3) := by decide +kernel
theorem dX0_standsOn_19 : decode cX0_standsOn 19 = .ok (.iload_n 2, 1) := by decide +kernel
theorem dX0_standsOn_20 : decode cX0_standsOn 20 = .ok (.aload_n 0, 1) := by decide +kernel
theorem dX0_standsOn_21 : decode cX0_standsOn 21 = .ok (.getfield 19, 3) := by decide +kernel
theorem dX0_standsOn_24 : decode cX0_standsOn 24 = .ok (.iload_n 1, 1) := by decide +kernel
theorem dX0_standsOn_25 : decode cX0_standsOn 25 = .ok (.iaload, 1) := by decide +kernel
theorem dX0_standsOn_26 : decode cX0_standsOn 26 = .ok (.isub, 1) := by decide +kernel
theorem dX0_standsOn_27 : decode cX0_standsOn 27 = .ok (.aload_n 3, 1) := by decide +kernel
theorem dX0_standsOn_28 : decode cX0_standsOn 28 = .ok (.getfield 37, 3) := by decide +kernel
theorem dX0_standsOn_31 : decode cX0_standsOn 31 = .ok (.aload_n 0, 1) := by decide +kernel
theorem dX0_standsOn_32 : decode cX0_standsOn 32 = .ok (.getfield 15, 3) := by decide +kernel
theorem dX0_standsOn_35 : decode cX0_standsOn 35 = .ok (.iload_n 1, 1) := by decide +kernel
theorem dX0_standsOn_36 : decode cX0_standsOn 36 = .ok (.iaload, 1) := by decide +kernel
theorem dX0_standsOn_37 : decode cX0_standsOn 37 = .ok (.iaload, 1) := by decide +kernel
theorem dX0_standsOn_38 : decode cX0_standsOn 38 = .ok (.if_icmp .gt 7, 3) := by decide +kernel
theorem dX0_standsOn_41 : decode cX0_standsOn 41 = .ok (.iconst 1, 1) := by decide +kernel
theorem dX0_standsOn_42 : decode cX0_standsOn 42 = .ok (.goto 4, 3) := by decide +kernel
theorem dX0_standsOn_45 : decode cX0_standsOn 45 = .ok (.iconst 0, 1) := by decide +kernel
theorem dX0_standsOn_46 : decode cX0_standsOn 46 = .ok (.ireturn, 1) := by decide +kernel
set_option maxRecDepth 20000 in
theorem ggX0_joined_X0_knowsSerial : GoodIn wsX0_joined wsX0_knowsSerial := goodIn_r _ [6, 7, 12, 13, 14, 15, 16, 17, 18] (by decide +kernel) (by decide +kernel)
set_option maxRecDepth 20000 in
theorem gX0_joined_X0_knowsSerial : GoodIn wsX0_joined (wsV RX0 42 RX0 yX0_knowsSerial wsX0_knowsSerial) := goodIn_app (goodIn_of _ (by decide +kernel)) ggX0_joined_X0_knowsSerial
set_option maxRecDepth 20000 in
theorem ggX0_joined_X0_shareMark : GoodIn wsX0_joined wsX0_shareMark := goodIn_r _ [11, 7, 12, 13, 14, 15, 16, 17, 18] (by decide +kernel) (by decide +kernel)
set_option maxRecDepth 20000 in
theorem gX0_joined_X0_shareMark : GoodIn wsX0_joined (wsV RX0 46 RX0 yX0_shareMark wsX0_shareMark) := goodIn_app (goodIn_of _ (by decide +kernel)) ggX0_joined_X0_shareMark
theorem dX0_joined_0 : decode cX0_joined 0 = .ok (.aload_n 0, 1) := by decide +kernel
theorem dX0_joined_1 : decode cX0_joined 1 = .ok (.getfield 34, 3) := by decide +kernel
theorem dX0_joined_4 : decode cX0_joined 4 = .ok (.iload_n 1, 1) := by decide +kernel
theorem dX0_joined_5 : decode cX0_joined 5 = .ok (.aaload, 1) := by decide +kernel
theorem dX0_joined_6 : decode cX0_joined 6 = .ok (.iload_n 2, 1) := by decide +kernel
theorem dX0_joined_7 : decode cX0_joined 7 = .ok (.iaload, 1) := by decide +kernel
theorem dX0_joined_8 : decode cX0_joined 8 = .ok (.ifCond .eq 21, 3) := by decide +kernel
theorem dX0_joined_11 : decode cX0_joined 11 = .ok (.aload_n 0, 1) := by decide +kernel
theorem dX0_joined_12 : decode cX0_joined 12 = .ok (.getfield 34, 3) := by decide +kernel
theorem dX0_joined_15 : decode cX0_joined 15 = .ok (.iload_n 1, 1) := by decide +kernel
theorem dX0_joined_16 : decode cX0_joined 16 = .ok (.aaload, 1) := by decide +kernel
theorem dX0_joined_17 : decode cX0_joined 17 = .ok (.iload_n 2, 1) := by decide +kernel
theorem dX0_joined_18 : decode cX0_joined 18 = .ok (.iaload, 1) := by decide +kernel
theorem dX0_joined_19 : decode cX0_joined 19 = .ok (.iconst 1, 1) := by decide +kernel
theorem dX0_joined_20 : decode cX0_joined 20 = .ok (.if_icmp .ne 7, 3) := by decide +kernel
theorem dX0_joined_23 : decode cX0_joined 23 = .ok (.iconst 1, 1) := by decide +kernel
theorem dX0_joined_24 : decode cX0_joined 24 = .ok (.goto 4, 3) := by decide +kernel
theorem dX0_joined_27 : decode cX0_joined 27 = .ok (.iconst 0, 1) := by decide +kernel
theorem dX0_joined_28 : decode cX0_joined 28 = .ok (.ireturn, 1) := by decide +kernel
theorem dX0_joined_29 : decode cX0_joined 29 = .ok (.aload_n 0, 1) := by decide +kernel
theorem dX0_joined_30 : decode cX0_joined 30 = .ok (.iload_n 1, 1) := by decide +kernel
theorem dX0_joined_31 : decode cX0_joined 31 = .ok (.invokevirtual 42, 3) := by decide +kernel
theorem dX0_joined_34 : decode cX0_joined 34 = .ok (.ifCond .eq 19, 3) := by decide +kernel
theorem dX0_joined_37 : decode cX0_joined 37 = .ok (.aload_n 0, 1) := by decide +kernel
theorem dX0_joined_38 : decode cX0_joined 38 = .ok (.iload_n 2, 1) := by decide +kernel
theorem dX0_joined_39 : decode cX0_joined 39 = .ok (.invokevirtual 42, 3) := by decide +kernel
theorem dX0_joined_42 : decode cX0_joined 42 = .ok (.ifCond .eq 11, 3) := by decide +kernel
theorem dX0_joined_45 : decode cX0_joined 45 = .ok (.aload_n 0, 1) := by decide +kernel
theorem dX0_joined_46 : decode cX0_joined 46 = .ok (.iconst 0, 1) := by decide +kernel
theorem dX0_joined_47 : decode cX0_joined 47 = .ok (.iload_n 1, 1) := by decide +kernel
theorem dX0_joined_48 : decode cX0_joined 48 = .ok (.iload_n 2, 1) := by decide +kernel
theorem dX0_joined_49 : decode cX0_joined 49 = .ok (.invokevirtual 46, 3) := by decide +kernel
theorem dX0_joined_52 : decode cX0_joined 52 = .ok (.ireturn, 1) := by decide +kernel
theorem dX0_joined_53 : decode cX0_joined 53 = .ok (.aload_n 0, 1) := by decide +kernel
theorem dX0_joined_54 : decode cX0_joined 54 = .ok (.iconst 1, 1) := by decide +kernel
theorem dX0_joined_55 : decode cX0_joined 55 = .ok (.iload_n 1, 1) := by decide +kernel
theorem dX0_joined_56 : decode cX0_joined 56 = .ok (.iload_n 2, 1) := by decide +kernel
theorem dX0_joined_57 : decode cX0_joined 57 = .ok (.invokevirtual 46, 3) := by decide +kernel
theorem dX0_joined_60 : decode cX0_joined 60 = .ok (.ifCond .eq 17, 3) := by decide +kernel
theorem dX0_joined_63 : decode cX0_joined 63 = .ok (.aload_n 0, 1) := by decide +kernel
theorem dX0_joined_64 : decode cX0_joined 64 = .ok (.iconst 2, 1) := by decide +kernel
theorem dX0_joined_65 : decode cX0_joined 65 = .ok (.iload_n 1, 1) := by decide +kernel
theorem dX0_joined_66 : decode cX0_joined 66 = .ok (.iload_n 2, 1) := by decide +kernel
theorem dX0_joined_67 : decode cX0_joined 67 = .ok (.invokevirtual 46, 3) := by decide +kernel
theorem dX0_joined_70 : decode cX0_joined 70 = .ok (.ifCond .eq 7, 3) := by decide +kernel
theorem dX0_joined_73 : decode cX0_joined 73 = .ok (.iconst 1, 1) := by decide +kernel
theorem dX0_joined_74 : decode cX0_joined 74 = .ok (.goto 4, 3) := by decide +kernel
theorem dX0_joined_77 : decode cX0_joined 77 = .ok (.iconst 0, 1) := by decide +kernel
theorem dX0_joined_78 : decode cX0_joined 78 = .ok (.ireturn, 1) := by decide +kernel
theorem dX0_knowsSerial_0 : decode cX0_knowsSerial 0 = .ok (.aload_n 0, 1) := by decide +kernel
theorem dX0_knowsSerial_1 : decode cX0_knowsSerial 1 = .ok (.getfield 28, 3) := by decide +kernel
theorem dX0_knowsSerial_4 : decode cX0_knowsSerial 4 = .ok (.iconst 0, 1) := by decide +kernel
theorem dX0_knowsSerial_5 : decode cX0_knowsSerial 5 = .ok (.aaload, 1) := by decide +kernel
theorem dX0_knowsSerial_6 : decode cX0_knowsSerial 6 = .ok (.iload_n 1, 1) := by decide +kernel
theorem dX0_knowsSerial_7 : decode cX0_knowsSerial 7 = .ok (.iaload, 1) := by decide +kernel
theorem dX0_knowsSerial_8 : decode cX0_knowsSerial 8 = .ok (.ifCond .eq 7, 3) := by decide +kernel
theorem dX0_knowsSerial_11 : decode cX0_knowsSerial 11 = .ok (.iconst 1, 1) := by decide +kernel
theorem dX0_knowsSerial_12 : decode cX0_knowsSerial 12 = .ok (.goto 4, 3) := by decide +kernel
theorem dX0_knowsSerial_15 : decode cX0_knowsSerial 15 = .ok (.iconst 0, 1) := by decide +kernel
theorem dX0_knowsSerial_16 : decode cX0_knowsSerial 16 = .ok (.ireturn, 1) := by decide +kernel
theorem dX0_shareMark_0 : decode cX0_shareMark 0 = .ok (.aload_n 0, 1) := by decide +kernel
theorem dX0_shareMark_1 : decode cX0_shareMark 1 = .ok (.getfield 28, 3) := by decide +kernel
theorem dX0_shareMark_4 : decode cX0_shareMark 4 = .ok (.iload_n 1, 1) := by decide +kernel
theorem dX0_shareMark_5 : decode cX0_shareMark 5 = .ok (.aaload, 1) := by decide +kernel
theorem dX0_shareMark_6 : decode cX0_shareMark 6 = .ok (.iload_n 2, 1) := by decide +kernel
theorem dX0_shareMark_7 : decode cX0_shareMark 7 = .ok (.iaload, 1) := by decide +kernel
theorem dX0_shareMark_8 : decode cX0_shareMark 8 = .ok (.ifCond .eq 26, 3) := by decide +kernel
theorem dX0_shareMark_11 : decode cX0_shareMark 11 = .ok (.aload_n 0, 1) := by decide +kernel
theorem dX0_shareMark_12 : decode cX0_shareMark 12 = .ok (.getfield 28, 3) := by decide +kernel
theorem dX0_shareMark_15 : decode cX0_shareMark 15 = .ok (.iload_n 1, 1) := by decide +kernel
theorem dX0_shareMark_16 : decode cX0_shareMark 16 = .ok (.aaload, 1) := by decide +kernel
theorem dX0_shareMark_17 : decode cX0_shareMark 17 = .ok (.iload_n 2, 1) := by decide +kernel
theorem dX0_shareMark_18 : decode cX0_shareMark 18 = .ok (.iaload, 1) := by decide +kernel
theorem dX0_shareMark_19 : decode cX0_shareMark 19 = .ok (.aload_n 0, 1) := by decide +kernel
theorem dX0_shareMark_20 : decode cX0_shareMark 20 = .ok (.getfield 28, 3) := by decide +kernel
theorem dX0_shareMark_23 : decode cX0_shareMark 23 = .ok (.iload_n 1, 1) := by decide +kernel
theorem dX0_shareMark_24 : decode cX0_shareMark 24 = .ok (.aaload, 1) := by decide +kernel
theorem dX0_shareMark_25 : decode cX0_shareMark 25 = .ok (.iload_n 3, 1) := by decide +kernel
theorem dX0_shareMark_26 : decode cX0_shareMark 26 = .ok (.iaload, 1) := by decide +kernel
theorem dX0_shareMark_27 : decode cX0_shareMark 27 = .ok (.if_icmp .ne 7, 3) := by decide +kernel
theorem dX0_shareMark_30 : decode cX0_shareMark 30 = .ok (.iconst 1, 1) := by decide +kernel
theorem dX0_shareMark_31 : decode cX0_shareMark 31 = .ok (.goto 4, 3) := by decide +kernel
theorem dX0_shareMark_34 : decode cX0_shareMark 34 = .ok (.iconst 0, 1) := by decide +kernel
theorem dX0_shareMark_35 : decode cX0_shareMark 35 = .ok (.ireturn, 1) := by decide +kernel
theorem dX1_init_0 : decode cX1_init 0 = .ok (.aload_n 0, 1) := by decide +kernel
theorem dX1_init_1 : decode cX1_init 1 = .ok (.invokespecial 3, 3) := by decide +kernel
theorem dX1_init_4 : decode cX1_init 4 = .ok (.aload_n 0, 1) := by decide +kernel
theorem dX1_init_5 : decode cX1_init 5 = .ok (.iconst 0, 1) := by decide +kernel
theorem dX1_init_6 : decode cX1_init 6 = .ok (.putfield 9, 3) := by decide +kernel
theorem dX1_init_9 : decode cX1_init 9 = .ok (.aload_n 0, 1) := by decide +kernel
theorem dX1_init_10 : decode cX1_init 10 = .ok (.bipush 40, 2) := by decide +kernel
theorem dX1_init_12 : decode cX1_init 12 = .ok (.newarray .int, 2) := by decide +kernel
theorem dX1_init_14 : decode cX1_init 14 = .ok (.putfield 15, 3) := by decide +kernel
theorem dX1_init_17 : decode cX1_init 17 = .ok (.aload_n 0, 1) := by decide +kernel
theorem dX1_init_18 : decode cX1_init 18 = .ok (.bipush 40, 2) := by decide +kernel
theorem dX1_init_20 : decode cX1_init 20 = .ok (.newarray .int, 2) := by decide +kernel
theorem dX1_init_22 : decode cX1_init 22 = .ok (.putfield 19, 3) := by decide +kernel
theorem dX1_init_25 : decode cX1_init 25 = .ok (.aload_n 0, 1) := by decide +kernel
theorem dX1_init_26 : decode cX1_init 26 = .ok (.bipush 40, 2) := by decide +kernel
theorem dX1_init_28 : decode cX1_init 28 = .ok (.newarray .int, 2) := by decide +kernel
theorem dX1_init_30 : decode cX1_init 30 = .ok (.putfield 22, 3) := by decide +kernel
theorem dX1_init_33 : decode cX1_init 33 = .ok (.aload_n 0, 1) := by decide +kernel
theorem dX1_init_34 : decode cX1_init 34 = .ok (.bipush 60, 2) := by decide +kernel
theorem dX1_init_36 : decode cX1_init 36 = .ok (.newarray .boolean, 2) := by decide +kernel
theorem dX1_init_38 : decode cX1_init 38 = .ok (.putfield 25, 3) := by decide +kernel
theorem dX1_init_41 : decode cX1_init 41 = .ok (.return_, 1) := by decide +kernel
theorem dX1_add_0 : decode cX1_add 0 = .ok (.aload_n 0, 1) := by decide +kernel
theorem dX1_add_1 : decode cX1_add 1 = .ok (.getfield 15, 3) := by decide +kernel
theorem dX1_add_4 : decode cX1_add 4 = .ok (.aload_n 0, 1) := by decide +kernel
theorem dX1_add_5 : decode cX1_add 5 = .ok (.getfield 9, 3) := by decide +kernel
theorem dX1_add_8 : decode cX1_add 8 = .ok (.iload_n 1, 1) := by decide +kernel
theorem dX1_add_9 : decode cX1_add 9 = .ok (.iastore, 1) := by decide +kernel
theorem dX1_add_10 : decode cX1_add 10 = .ok (.aload_n 0, 1) := by decide +kernel
theorem dX1_add_11 : decode cX1_add 11 = .ok (.getfield 19, 3) := by decide +kernel
theorem dX1_add_14 : decode cX1_add 14 = .ok (.aload_n 0, 1) := by decide +kernel
theorem dX1_add_15 : decode cX1_add 15 = .ok (.getfield 9, 3) := by decide +kernel
theorem dX1_add_18 : decode cX1_add 18 = .ok (.iload_n 2, 1) := by decide +kernel
theorem dX1_add_19 : decode cX1_add 19 = .ok (.iastore, 1) := by decide +kernel
theorem dX1_add_20 : decode cX1_add 20 = .ok (.aload_n 0, 1) := by decide +kernel
theorem dX1_add_21 : decode cX1_add 21 = .ok (.getfield 22, 3) := by decide +kernel
theorem dX1_add_24 : decode cX1_add 24 = .ok (.aload_n 0, 1) := by decide +kernel
theorem dX1_add_25 : decode cX1_add 25 = .ok (.getfield 9, 3) := by decide +kernel
theorem dX1_add_28 : decode cX1_add 28 = .ok (.iload_n 3, 1) := by decide +kernel
theorem dX1_add_29 : decode cX1_add 29 = .ok (.iastore, 1) := by decide +kernel
theorem dX1_add_30 : decode cX1_add 30 = .ok (.aload_n 0, 1) := by decide +kernel
theorem dX1_add_31 : decode cX1_add 31 = .ok (.dup, 1) := by decide +kernel
theorem dX1_add_32 : decode cX1_add 32 = .ok (.getfield 9, 3) := by decide +kernel
theorem dX1_add_35 : decode cX1_add 35 = .ok (.iconst 1, 1) := by decide +kernel
theorem dX1_add_36 : decode cX1_add 36 = .ok (.iadd, 1) := by decide +kernel
theorem dX1_add_37 : decode cX1_add 37 = .ok (.putfield 9, 3) := by decide +kernel
theorem dX1_add_40 : decode cX1_add 40 = .ok (.return_, 1) := by decide +kernel
set_option maxRecDepth 20000 in
theorem ggX1_failFrom_X1_failMore : GoodIn wsX1_failFrom wsX1_failMore := goodIn_r _ [6, 7, 8, 9, 1, 10, 11, 12, 13, 5, 14, 15, 16, 17, 18, 19, 20, 21, 22, 23, 24, 25, 26, 27] (by decide +kernel) (by decide +kernel)
set_option maxRecDepth 20000 in
theorem gX1_failFrom_X1_failMore : GoodIn wsX1_failFrom (wsV RX1 29 RX1 yX1_failMore wsX1_failMore) := goodIn_app (goodIn_of _ (by decide +kernel)) ggX1_failFrom_X1_failMore
theorem dX1_failFrom_0 : decode cX1_failFrom 0 = .ok (.iconst 0, 1) := by decide +kernel
theorem dX1_failFrom_1 : decode cX1_failFrom 1 = .ok (.istore_n 3, 1) := by decide +kernel
theorem dX1_failFrom_2 : decode cX1_failFrom 2 = .ok (.iload_n 3, 1) := by decide +kernel
theorem dX1_failFrom_3 : decode cX1_failFrom 3 = .ok (.bipush 60, 2) := by decide +kernel
theorem dX1_failFrom_5 : decode cX1_failFrom 5 = .ok (.if_icmp .ge 16, 3) := by decide +kernel
theorem dX1_failFrom_8 : decode cX1_failFrom 8 = .ok (.aload_n 0, 1) := by decide +kernel
theorem dX1_failFrom_9 : decode cX1_failFrom 9 = .ok (.getfield 25, 3) := by decide +kernel
theorem dX1_failFrom_12 : decode cX1_failFrom 12 = .ok (.iload_n 3, 1) := by decide +kernel
theorem dX1_failFrom_13 : decode cX1_failFrom 13 = .ok (.iconst 0, 1) := by decide +kernel
theorem dX1_failFrom_14 : decode cX1_failFrom 14 = .ok (.bastore, 1) := by decide +kernel
theorem dX1_failFrom_15 : decode cX1_failFrom 15 = .ok (.iinc 3 1, 3) := by decide +kernel
theorem dX1_failFrom_18 : decode cX1_failFrom 18 = .ok (.goto (-16), 3) := by decide +kernel
theorem dX1_failFrom_21 : decode cX1_failFrom 21 = .ok (.aload_n 0, 1) := by decide +kernel
theorem dX1_failFrom_22 : decode cX1_failFrom 22 = .ok (.getfield 25, 3) := by decide +kernel
theorem dX1_failFrom_25 : decode cX1_failFrom 25 = .ok (.iload_n 1, 1) := by decide +kernel
theorem dX1_failFrom_26 : decode cX1_failFrom 26 = .ok (.iconst 1, 1) := by decide +kernel
theorem dX1_failFrom_27 : decode cX1_failFrom 27 = .ok (.bastore, 1) := by decide +kernel
theorem dX1_failFrom_28 : decode cX1_failFrom 28 = .ok (.iconst 1, 1) := by decide +kernel
theorem dX1_failFrom_29 : decode cX1_failFrom 29 = .ok (.istore_n 3, 1) := by decide +kernel
theorem dX1_failFrom_30 : decode cX1_failFrom 30 = .ok (.iconst 0, 1) := by decide +kernel
theorem dX1_failFrom_31 : decode cX1_failFrom 31 = .ok (.istore 4, 2) := by decide +kernel
theorem dX1_failFrom_33 : decode cX1_failFrom 33 = .ok (.iload_n 3, 1) := by decide +kernel
theorem dX1_failFrom_34 : decode cX1_failFrom 34 = .ok (.ifCond .eq 22, 3) := by decide +kernel
theorem dX1_failFrom_37 : decode cX1_failFrom 37 = .ok (.iload 4, 2) := by decide +kernel
theorem dX1_failFrom_39 : decode cX1_failFrom 39 = .ok (.bipush 60, 2) := by decide +kernel
theorem dX1_failFrom_41 : decode cX1_failFrom 41 = .ok (.if_icmp .ge 15, 3) := by decide +kernel
theorem dX1_failFrom_44 : decode cX1_failFrom 44 = .ok (.aload_n 0, 1) := by decide +kernel
theorem dX1_failFrom_45 : decode cX1_failFrom 45 = .ok (.aload_n 2, 1) := by decide +kernel
theorem dX1_failFrom_46 : decode cX1_failFrom 46 = .ok (.invokevirtual 29, 3) := by decide +kernel
theorem dX1_failFrom_49 : decode cX1_failFrom 49 = .ok (.istore_n 3, 1) := by decide +kernel
theorem dX1_failFrom_50 : decode cX1_failFrom 50 = .ok (.iinc 4 1, 3) := by decide +kernel
theorem dX1_failFrom_53 : decode cX1_failFrom 53 = .ok (.goto (-20), 3) := by decide +kernel
theorem dX1_failFrom_56 : decode cX1_failFrom 56 = .ok (.return_, 1) := by decide +kernel
set_option maxRecDepth 20000 in
theorem ggX1_failMore_X1_holds : GoodIn wsX1_failMore wsX1_holds := goodIn_r _ [10, 2, 3, 11, 21, 22, 23, 16, 17, 18, 19, 20] (by decide +kernel) (by decide +kernel)
set_option maxRecDepth 20000 in
theorem gX1_failMore_X1_holds : GoodIn wsX1_failMore (wsV RX1 38 RX1 yX1_holds wsX1_holds) := goodIn_app (goodIn_of _ (by decide +kernel)) ggX1_failMore_X1_holds
set_option maxRecDepth 20000 in
theorem ggX1_failMore_X1_lost : GoodIn wsX1_failMore wsX1_lost := goodIn_r _ [15, 1, 5, 2, 3, 4, 11, 6, 7, 8, 9, 10, 16, 17, 18, 19, 20, 21, 22, 23] (by decide +kernel) (by decide +kernel)
set_option maxRecDepth 20000 in
theorem gX1_failMore_X1_lost : GoodIn wsX1_failMore (wsV RX1 42 RX1 yX1_lost wsX1_lost) := goodIn_app (goodIn_of _ (by decide +kernel)) ggX1_failMore_X1_lost
theorem dX1_failMore_0 : decode cX1_failMore 0 = .ok (.iconst 0, 1) := by decide +kernel
theorem dX1_failMore_1 : decode cX1_failMore 1 = .ok (.istore_n 2, 1) := by decide +kernel
theorem dX1_failMore_2 : decode cX1_failMore 2 = .ok (.iconst 0, 1) := by decide +kernel
theorem dX1_failMore_3 : decode cX1_failMore 3 = .ok (.istore_n 3, 1) := by decide +kernel
theorem dX1_failMore_4 : decode cX1_failMore 4 = .ok (.iload_n 3, 1) := by decide +kernel
theorem dX1_failMore_5 : decode cX1_failMore 5 = .ok (.aload_n 0, 1) := by decide +kernel
theorem dX1_failMore_6 : decode cX1_failMore 6 = .ok (.getfield 9, 3) := by decide +kernel
theorem dX1_failMore_9 : decode cX1_failMore 9 = .ok (.if_icmp .ge 67, 3) := by decide +kernel
theorem dX1_failMore_12 : decode cX1_failMore 12 = .ok (.aload_n 1, 1) := by decide +kernel
theorem dX1_failMore_13 : decode cX1_failMore 13 = .ok (.getfield 33, 3) := by decide +kernel
theorem dX1_failMore_16 : decode cX1_failMore 16 = .ok (.aload_n 0, 1) := by decide +kernel
theorem dX1_failMore_17 : decode cX1_failMore 17 = .ok (.getfield 15, 3) := by decide +kernel
theorem dX1_failMore_20 : decode cX1_failMore 20 = .ok (.iload_n 3, 1) := by decide +kernel
theorem dX1_failMore_21 : decode cX1_failMore 21 = .ok (.iaload, 1) := by decide +kernel
theorem dX1_failMore_22 : decode cX1_failMore 22 = .ok (.iaload, 1) := by decide +kernel
theorem dX1_failMore_23 : decode cX1_failMore 23 = .ok (.istore 4, 2) := by decide +kernel
theorem dX1_failMore_25 : decode cX1_failMore 25 = .ok (.aload_n 0, 1) := by decide +kernel
theorem dX1_failMore_26 : decode cX1_failMore 26 = .ok (.iload_n 3, 1) := by decide +kernel
theorem dX1_failMore_27 : decode cX1_failMore 27 = .ok (.aload_n 1, 1) := by decide +kernel
theorem dX1_failMore_28 : decode cX1_failMore 28 = .ok (.invokevirtual 38, 3) := by decide +kernel
theorem dX1_failMore_31 : decode cX1_failMore 31 = .ok (.ifCond .eq 39, 3) := by decide +kernel
theorem dX1_failMore_34 : decode cX1_failMore 34 = .ok (.aload_n 0, 1) := by decide +kernel
theorem dX1_failMore_35 : decode cX1_failMore 35 = .ok (.getfield 25, 3) := by decide +kernel
theorem dX1_failMore_38 : decode cX1_failMore 38 = .ok (.iload 4, 2) := by decide +kernel
theorem dX1_failMore_40 : decode cX1_failMore 40 = .ok (.baload, 1) := by decide +kernel
theorem dX1_failMore_41 : decode cX1_failMore 41 = .ok (.ifCond .ne 29, 3) := by decide +kernel
theorem dX1_failMore_44 : decode cX1_failMore 44 = .ok (.aload_n 0, 1) := by decide +kernel
theorem dX1_failMore_45 : decode cX1_failMore 45 = .ok (.iload 4, 2) := by decide +kernel
theorem dX1_failMore_47 : decode cX1_failMore 47 = .ok (.aload_n 0, 1) := by decide +kernel
theorem dX1_failMore_48 : decode cX1_failMore 48 = .ok (.getfield 22, 3) := by decide +kernel
theorem dX1_failMore_51 : decode cX1_failMore 51 = .ok (.iload_n 3, 1) := by decide +kernel
theorem dX1_failMore_52 : decode cX1_failMore 52 = .ok (.iaload, 1) := by decide +kernel
theorem dX1_failMore_53 : decode cX1_failMore 53 = .ok (.aload_n 1, 1) := by decide +kernel
theorem dX1_failMore_54 : decode cX1_failMore 54 = .ok (.invokevirtual 42, 3) := by decide +kernel
theorem dX1_failMore_57 : decode cX1_failMore 57 = .ok (.ifCond .eq 13, 3) := by decide +kernel
theorem dX1_failMore_60 : decode cX1_failMore 60 = .ok (.aload_n 0, 1) := by decide +kernel
theorem dX1_failMore_61 : decode cX1_failMore 61 = .ok (.getfield 25, 3) := by decide +kernel
theorem dX1_failMore_64 : decode cX1_failMore 64 = .ok (.iload 4, 2) := by decide +kernel
theorem dX1_failMore_66 : decode cX1_failMore 66 = .ok (.iconst 1, 1) := by decide +kernel
theorem dX1_failMore_67 : decode cX1_failMore 67 = .ok (.bastore, 1) := by decide +kernel
theorem dX1_failMore_68 : decode cX1_failMore 68 = .ok (.iconst 1, 1) := by decide +kernel
theorem dX1_failMore_69 : decode cX1_failMore 69 = .ok (.istore_n 2, 1) := by decide +kernel
theorem dX1_failMore_70 : decode cX1_failMore 70 = .ok (.iinc 3 1, 3) := by decide +kernel
theorem dX1_failMore_73 : decode cX1_failMore 73 = .ok (.goto (-69), 3) := by decide +kernel
theorem dX1_failMore_76 : decode cX1_failMore 76 = .ok (.iload_n 2, 1) := by decide +kernel
theorem dX1_failMore_77 : decode cX1_failMore 77 = .ok (.ireturn, 1) := by decide +kernel
theorem dX1_holds_0 : decode cX1_holds 0 = .ok (.aload_n 2, 1) := by decide +kernel
theorem dX1_holds_1 : decode cX1_holds 1 = .ok (.getfield 33, 3) := by decide +kernel
theorem dX1_holds_4 : decode cX1_holds 4 = .ok (.aload_n 0, 1) := by decide +kernel
theorem dX1_holds_5 : decode cX1_holds 5 = .ok (.getfield 15, 3) := by decide +kernel
theorem dX1_holds_8 : decode cX1_holds 8 = .ok (.iload_n 1, 1) := by decide +kernel
theorem dX1_holds_9 : decode cX1_holds 9 = .ok (.iaload, 1) := by decide +kernel
theorem dX1_holds_10 : decode cX1_holds 10 = .ok (.iaload, 1) := by decide +kernel
theorem dX1_holds_11 : decode cX1_holds 11 = .ok (.istore_n 3, 1) := by decide +kernel
theorem dX1_holds_12 : decode cX1_holds 12 = .ok (.aload_n 2, 1) := by decide +kernel
theorem dX1_holds_13 : decode cX1_holds 13 = .ok (.getfield 33, 3) := by decide +kernel
theorem dX1_holds_16 : decode cX1_holds 16 = .ok (.aload_n 0, 1) := by decide +kernel
theorem dX1_holds_17 : decode cX1_holds 17 = .ok (.getfield 19, 3) := by decide +kernel
theorem dX1_holds_20 : decode cX1_holds 20 = .ok (.iload_n 1, 1) := by decide +kernel
theorem dX1_holds_21 : decode cX1_holds 21 = .ok (.iaload, 1) := by decide +kernel
theorem dX1_holds_22 : decode cX1_holds 22 = .ok (.iaload, 1) := by decide +kernel
theorem dX1_holds_23 : decode cX1_holds 23 = .ok (.istore 4, 2) := by decide +kernel
theorem dX1_holds_25 : decode cX1_holds 25 = .ok (.iload_n 3, 1) := by decide +kernel
theorem dX1_holds_26 : decode cX1_holds 26 = .ok (.iconst (-1), 1) := by decide +kernel
theorem dX1_holds_27 : decode cX1_holds 27 = .ok (.if_icmp .eq 19, 3) := by decide +kernel
theorem dX1_holds_30 : decode cX1_holds 30 = .ok (.iload 4, 2) := by decide +kernel
theorem dX1_holds_32 : decode cX1_holds 32 = .ok (.iconst (-1), 1) := by decide +kernel
theorem dX1_holds_33 : decode cX1_holds 33 = .ok (.if_icmp .eq 13, 3) := by decide +kernel
theorem dX1_holds_36 : decode cX1_holds 36 = .ok (.iload_n 3, 1) := by decide +kernel
theorem dX1_holds_37 : decode cX1_holds 37 = .ok (.iload 4, 2) := by decide +kernel
theorem dX1_holds_39 : decode cX1_holds 39 = .ok (.if_icmp .eq 7, 3) := by decide +kernel
theorem dX1_holds_42 : decode cX1_holds 42 = .ok (.iconst 1, 1) := by decide +kernel
theorem dX1_holds_43 : decode cX1_holds 43 = .ok (.goto 4, 3) := by decide +kernel
theorem dX1_holds_46 : decode cX1_holds 46 = .ok (.iconst 0, 1) := by decide +kernel
theorem dX1_holds_47 : decode cX1_holds 47 = .ok (.ireturn, 1) := by decide +kernel
set_option maxRecDepth 20000 in
theorem ggX1_lost_X1_holds : GoodIn wsX1_lost wsX1_holds := goodIn_r _ [11, 3, 4, 6, 17, 18, 19, 12, 13, 14, 15, 16] (by decide +kernel) (by decide +kernel)
set_option maxRecDepth 20000 in
theorem gX1_lost_X1_holds : GoodIn wsX1_lost (wsV RX1 38 RX1 yX1_holds wsX1_holds) := goodIn_app (goodIn_of _ (by decide +kernel)) ggX1_lost_X1_holds
theorem dX1_lost_0 : decode cX1_lost 0 = .ok (.iconst 0, 1) := by decide +kernel
theorem dX1_lost_1 : decode cX1_lost 1 = .ok (.istore 4, 2) := by decide +kernel
theorem dX1_lost_3 : decode cX1_lost 3 = .ok (.iload 4, 2) := by decide +kernel
theorem dX1_lost_5 : decode cX1_lost 5 = .ok (.aload_n 0, 1) := by decide +kernel
theorem dX1_lost_6 : decode cX1_lost 6 = .ok (.getfield 9, 3) := by decide +kernel
theorem dX1_lost_9 : decode cX1_lost 9 = .ok (.if_icmp .ge 68, 3) := by decide +kernel
theorem dX1_lost_12 : decode cX1_lost 12 = .ok (.aload_n 0, 1) := by decide +kernel
theorem dX1_lost_13 : decode cX1_lost 13 = .ok (.getfield 22, 3) := by decide +kernel
theorem dX1_lost_16 : decode cX1_lost 16 = .ok (.iload 4, 2) := by decide +kernel
theorem dX1_lost_18 : decode cX1_lost 18 = .ok (.iaload, 1) := by decide +kernel
theorem dX1_lost_19 : decode cX1_lost 19 = .ok (.iload_n 2, 1) := by decide +kernel
theorem dX1_lost_20 : decode cX1_lost 20 = .ok (.if_icmp .ne 51, 3) := by decide +kernel
theorem dX1_lost_23 : decode cX1_lost 23 = .ok (.aload_n 3, 1) := by decide +kernel
theorem dX1_lost_24 : decode cX1_lost 24 = .ok (.getfield 33, 3) := by decide +kernel
theorem dX1_lost_27 : decode cX1_lost 27 = .ok (.aload_n 0, 1) := by decide +kernel
theorem dX1_lost_28 : decode cX1_lost 28 = .ok (.getfield 15, 3) := by decide +kernel
theorem dX1_lost_31 : decode cX1_lost 31 = .ok (.iload 4, 2) := by decide +kernel
theorem dX1_lost_33 : decode cX1_lost 33 = .ok (.iaload, 1) := by decide +kernel
theorem dX1_lost_34 : decode cX1_lost 34 = .ok (.iaload, 1) := by decide +kernel
theorem dX1_lost_35 : decode cX1_lost 35 = .ok (.iload_n 1, 1) := by decide +kernel
theorem dX1_lost_36 : decode cX1_lost 36 = .ok (.if_icmp .ne 35, 3) := by decide +kernel
theorem dX1_lost_39 : decode cX1_lost 39 = .ok (.aload_n 0, 1) := by decide +kernel
theorem dX1_lost_40 : decode cX1_lost 40 = .ok (.iload 4, 2) := by decide +kernel
theorem dX1_lost_42 : decode cX1_lost 42 = .ok (.aload_n 3, 1) := by decide +kernel
theorem dX1_lost_43 : decode cX1_lost 43 = .ok (.invokevirtual 38, 3) := by decide +kernel
theorem dX1_lost_46 : decode cX1_lost 46 = .ok (.ifCond .eq 25, 3) := by decide +kernel
theorem dX1_lost_49 : decode cX1_lost 49 = .ok (.aload_n 0, 1) := by decide +kernel
theorem dX1_lost_50 : decode cX1_lost 50 = .ok (.getfield 25, 3) := by decide +kernel
theorem dX1_lost_53 : decode cX1_lost 53 = .ok (.aload_n 3, 1) := by decide +kernel
theorem dX1_lost_54 : decode cX1_lost 54 = .ok (.getfield 33, 3) := by decide +kernel
theorem dX1_lost_57 : decode cX1_lost 57 = .ok (.aload_n 0, 1) := by decide +kernel
theorem dX1_lost_58 : decode cX1_lost 58 = .ok (.getfield 19, 3) := by decide +kernel
theorem dX1_lost_61 : decode cX1_lost 61 = .ok (.iload 4, 2) := by decide +kernel
theorem dX1_lost_63 : decode cX1_lost 63 = .ok (.iaload, 1) := by decide +kernel
theorem dX1_lost_64 : decode cX1_lost 64 = .ok (.iaload, 1) := by decide +kernel
theorem dX1_lost_65 : decode cX1_lost 65 = .ok (.baload, 1) := by decide +kernel
theorem dX1_lost_66 : decode cX1_lost 66 = .ok (.ifCond .ne 5, 3) := by decide +kernel
theorem dX1_lost_69 : decode cX1_lost 69 = .ok (.iconst 0, 1) := by decide +kernel
theorem dX1_lost_70 : decode cX1_lost 70 = .ok (.ireturn, 1) := by decide +kernel
theorem dX1_lost_71 : decode cX1_lost 71 = .ok (.iinc 4 1, 3) := by decide +kernel
theorem dX1_lost_74 : decode cX1_lost 74 = .ok (.goto (-71), 3) := by decide +kernel
theorem dX1_lost_77 : decode cX1_lost 77 = .ok (.iconst 1, 1) := by decide +kernel
theorem dX1_lost_78 : decode cX1_lost 78 = .ok (.ireturn, 1) := by decide +kernel
theorem dX1_failures_0 : decode cX1_failures 0 = .ok (.iconst 0, 1) := by decide +kernel
theorem dX1_failures_1 : decode cX1_failures 1 = .ok (.istore_n 1, 1) := by decide +kernel
theorem dX1_failures_2 : decode cX1_failures 2 = .ok (.iconst 0, 1) := by decide +kernel
theorem dX1_failures_3 : decode cX1_failures 3 = .ok (.istore_n 2, 1) := by decide +kernel
theorem dX1_failures_4 : decode cX1_failures 4 = .ok (.iload_n 2, 1) := by decide +kernel
theorem dX1_failures_5 : decode cX1_failures 5 = .ok (.bipush 60, 2) := by decide +kernel
theorem dX1_failures_7 : decode cX1_failures 7 = .ok (.if_icmp .ge 21, 3) := by decide +kernel
theorem dX1_failures_10 : decode cX1_failures 10 = .ok (.aload_n 0, 1) := by decide +kernel
theorem dX1_failures_11 : decode cX1_failures 11 = .ok (.getfield 25, 3) := by decide +kernel
theorem dX1_failures_14 : decode cX1_failures 14 = .ok (.iload_n 2, 1) := by decide +kernel
theorem dX1_failures_15 : decode cX1_failures 15 = .ok (.baload, 1) := by decide +kernel
theorem dX1_failures_16 : decode cX1_failures 16 = .ok (.ifCond .eq 6, 3) := by decide +kernel
theorem dX1_failures_19 : decode cX1_failures 19 = .ok (.iinc 1 1, 3) := by decide +kernel
theorem dX1_failures_22 : decode cX1_failures 22 = .ok (.iinc 2 1, 3) := by decide +kernel
theorem dX1_failures_25 : decode cX1_failures 25 = .ok (.goto (-21), 3) := by decide +kernel
theorem dX1_failures_28 : decode cX1_failures 28 = .ok (.iload_n 1, 1) := by decide +kernel
theorem dX1_failures_29 : decode cX1_failures 29 = .ok (.ireturn, 1) := by decide +kernel
theorem dX2_init_0 : decode cX2_init 0 = .ok (.aload_n 0, 1) := by decide +kernel
theorem dX2_init_1 : decode cX2_init 1 = .ok (.invokespecial 3, 3) := by decide +kernel
theorem dX2_init_4 : decode cX2_init 4 = .ok (.aload_n 0, 1) := by decide +kernel
theorem dX2_init_5 : decode cX2_init 5 = .ok (.iconst 4, 1) := by decide +kernel
theorem dX2_init_6 : decode cX2_init 6 = .ok (.newarray .int, 2) := by decide +kernel
theorem dX2_init_8 : decode cX2_init 8 = .ok (.putfield 9, 3) := by decide +kernel
theorem dX2_init_11 : decode cX2_init 11 = .ok (.aload_n 0, 1) := by decide +kernel
theorem dX2_init_12 : decode cX2_init 12 = .ok (.iconst 4, 1) := by decide +kernel
theorem dX2_init_13 : decode cX2_init 13 = .ok (.newarray .int, 2) := by decide +kernel
theorem dX2_init_15 : decode cX2_init 15 = .ok (.putfield 15, 3) := by decide +kernel
theorem dX2_init_18 : decode cX2_init 18 = .ok (.iconst 0, 1) := by decide +kernel
theorem dX2_init_19 : decode cX2_init 19 = .ok (.istore_n 1, 1) := by decide +kernel
theorem dX2_init_20 : decode cX2_init 20 = .ok (.iload_n 1, 1) := by decide +kernel
theorem dX2_init_21 : decode cX2_init 21 = .ok (.iconst 4, 1) := by decide +kernel
theorem dX2_init_22 : decode cX2_init 22 = .ok (.if_icmp .ge 24, 3) := by decide +kernel
theorem dX2_init_25 : decode cX2_init 25 = .ok (.aload_n 0, 1) := by decide +kernel
theorem dX2_init_26 : decode cX2_init 26 = .ok (.getfield 9, 3) := by decide +kernel
theorem dX2_init_29 : decode cX2_init 29 = .ok (.iload_n 1, 1) := by decide +kernel
theorem dX2_init_30 : decode cX2_init 30 = .ok (.bipush 30, 2) := by decide +kernel
theorem dX2_init_32 : decode cX2_init 32 = .ok (.iastore, 1) := by decide +kernel
theorem dX2_init_33 : decode cX2_init 33 = .ok (.aload_n 0, 1) := by decide +kernel
theorem dX2_init_34 : decode cX2_init 34 = .ok (.getfield 15, 3) := by decide +kernel
theorem dX2_init_37 : decode cX2_init 37 = .ok (.iload_n 1, 1) := by decide +kernel
theorem dX2_init_38 : decode cX2_init 38 = .ok (.iload_n 1, 1) := by decide +kernel
theorem dX2_init_39 : decode cX2_init 39 = .ok (.iastore, 1) := by decide +kernel
theorem dX2_init_40 : decode cX2_init 40 = .ok (.iinc 1 1, 3) := by decide +kernel
theorem dX2_init_43 : decode cX2_init 43 = .ok (.goto (-23), 3) := by decide +kernel
theorem dX2_init_46 : decode cX2_init 46 = .ok (.return_, 1) := by decide +kernel
theorem dX2_moveToFront_0 : decode cX2_moveToFront 0 = .ok (.aload_n 0, 1) := by decide +kernel
theorem dX2_moveToFront_1 : decode cX2_moveToFront 1 = .ok (.getfield 15, 3) := by decide +kernel
theorem dX2_moveToFront_4 : decode cX2_moveToFront 4 = .ok (.iload_n 1, 1) := by decide +kernel
theorem dX2_moveToFront_5 : decode cX2_moveToFront 5 = .ok (.iaload, 1) := by decide +kernel
theorem dX2_moveToFront_6 : decode cX2_moveToFront 6 = .ok (.istore_n 2, 1) := by decide +kernel
theorem dX2_moveToFront_7 : decode cX2_moveToFront 7 = .ok (.iconst 0, 1) := by decide +kernel
theorem dX2_moveToFront_8 : decode cX2_moveToFront 8 = .ok (.istore_n 3, 1) := by decide +kernel
theorem dX2_moveToFront_9 : decode cX2_moveToFront 9 = .ok (.iload_n 3, 1) := by decide +kernel
theorem dX2_moveToFront_10 : decode cX2_moveToFront 10 = .ok (.iconst 4, 1) := by decide +kernel
theorem dX2_moveToFront_11 : decode cX2_moveToFront 11 = .ok (.if_icmp .ge 29, 3) := by decide +kernel
theorem dX2_moveToFront_14 : decode cX2_moveToFront 14 = .ok (.aload_n 0, 1) := by decide +kernel
theorem dX2_moveToFront_15 : decode cX2_moveToFront 15 = .ok (.getfield 15, 3) := by decide +kernel
theorem dX2_moveToFront_18 : decode cX2_moveToFront 18 = .ok (.iload_n 3, 1) := by decide +kernel
theorem dX2_moveToFront_19 : decode cX2_moveToFront 19 = .ok (.iaload, 1) := by decide +kernel
theorem dX2_moveToFront_20 : decode cX2_moveToFront 20 = .ok (.iload_n 2, 1) := by decide +kernel
theorem dX2_moveToFront_21 : decode cX2_moveToFront 21 = .ok (.if_icmp .ge 13, 3) := by decide +kernel
theorem dX2_moveToFront_24 : decode cX2_moveToFront 24 = .ok (.aload_n 0, 1) := by decide +kernel
theorem dX2_moveToFront_25 : decode cX2_moveToFront 25 = .ok (.getfield 15, 3) := by decide +kernel
theorem dX2_moveToFront_28 : decode cX2_moveToFront 28 = .ok (.iload_n 3, 1) := by decide +kernel
theorem dX2_moveToFront_29 : decode cX2_moveToFront 29 = .ok (.dup2, 1) := by decide +kernel
theorem dX2_moveToFront_30 : decode cX2_moveToFront 30 = .ok (.iaload, 1) := by decide +kernel
theorem dX2_moveToFront_31 : decode cX2_moveToFront 31 = .ok (.iconst 1, 1) := by decide +kernel
theorem dX2_moveToFront_32 : decode cX2_moveToFront 32 = .ok (.iadd, 1) := by decide +kernel
theorem dX2_moveToFront_33 : decode cX2_moveToFront 33 = .ok (.iastore, 1) := by decide +kernel
theorem dX2_moveToFront_34 : decode cX2_moveToFront 34 = .ok (.iinc 3 1, 3) := by decide +kernel
theorem dX2_moveToFront_37 : decode cX2_moveToFront 37 = .ok (.goto (-28), 3) := by decide +kernel
theorem dX2_moveToFront_40 : decode cX2_moveToFront 40 = .ok (.aload_n 0, 1) := by decide +kernel
theorem dX2_moveToFront_41 : decode cX2_moveToFront 41 = .ok (.getfield 15, 3) := by decide +kernel
theorem dX2_moveToFront_44 : decode cX2_moveToFront 44 = .ok (.iload_n 1, 1) := by decide +kernel
theorem dX2_moveToFront_45 : decode cX2_moveToFront 45 = .ok (.iconst 0, 1) := by decide +kernel
theorem dX2_moveToFront_46 : decode cX2_moveToFront 46 = .ok (.iastore, 1) := by decide +kernel
theorem dX2_moveToFront_47 : decode cX2_moveToFront 47 = .ok (.iload_n 2, 1) := by decide +kernel
theorem dX2_moveToFront_48 : decode cX2_moveToFront 48 = .ok (.ireturn, 1) := by decide +kernel
theorem dX3_init_0 : decode cX3_init 0 = .ok (.aload_n 0, 1) := by decide +kernel
theorem dX3_init_1 : decode cX3_init 1 = .ok (.invokespecial 3, 3) := by decide +kernel
theorem dX3_init_4 : decode cX3_init 4 = .ok (.aload_n 0, 1) := by decide +kernel
theorem dX3_init_5 : decode cX3_init 5 = .ok (.bipush 60, 2) := by decide +kernel
theorem dX3_init_7 : decode cX3_init 7 = .ok (.newarray .int, 2) := by decide +kernel
theorem dX3_init_9 : decode cX3_init 9 = .ok (.putfield 9, 3) := by decide +kernel
theorem dX3_init_12 : decode cX3_init 12 = .ok (.aload_n 0, 1) := by decide +kernel
theorem dX3_init_13 : decode cX3_init 13 = .ok (.aload_n 1, 1) := by decide +kernel
theorem dX3_init_14 : decode cX3_init 14 = .ok (.putfield 15, 3) := by decide +kernel
theorem dX3_init_17 : decode cX3_init 17 = .ok (.aload_n 0, 1) := by decide +kernel
theorem dX3_init_18 : decode cX3_init 18 = .ok (.aload_n 2, 1) := by decide +kernel
theorem dX3_init_19 : decode cX3_init 19 = .ok (.putfield 19, 3) := by decide +kernel
theorem dX3_init_22 : decode cX3_init 22 = .ok (.return_, 1) := by decide +kernel
set_option maxRecDepth 20000 in
theorem ggX3_sortFor_X0_standsOn : GoodIn wsX3_sortFor wsX0_standsOn := goodIn_r _ [9, 10, 11, 12, 13, 47, 48, 49, 50, 51, 52, 53, 54, 55] (by decide +kernel) (by decide +kernel)
set_option maxRecDepth 20000 in
theorem gX3_sortFor_X0_standsOn : GoodIn wsX3_sortFor (wsV RX3 29 RX0 yX0_standsOn wsX0_standsOn) := goodIn_app (goodIn_of _ (by decide +kernel)) ggX3_sortFor_X0_standsOn
set_option maxRecDepth 20000 in
theorem ggX3_sortFor_X3_joinToEarlier : GoodIn wsX3_sortFor wsX3_joinToEarlier := goodIn_r _ [18, 3, 1, 19, 20, 21, 8, 22, 23, 24, 25, 26, 27, 28, 29, 30, 31, 32, 33, 34, 35, 17, 36, 37, 38, 39, 40, 41, 42, 43, 2, 44, 45, 46, 47, 48, 49, 50, 51, 52, 53] (by decide +kernel) (by decide +kernel)
set_option maxRecDepth 20000 in
theorem gX3_sortFor_X3_joinToEarlier : GoodIn wsX3_sortFor (wsV RX3 33 RX3 yX3_joinToEarlier wsX3_joinToEarlier) := goodIn_app (goodIn_of _ (by decide +kernel)) ggX3_sortFor_X3_joinToEarlier
theorem dX3_sortFor_0 : decode cX3_sortFor 0 = .ok (.iconst 0, 1) := by decide +kernel
theorem dX3_sortFor_1 : decode cX3_sortFor 1 = .ok (.istore_n 2, 1) := by decide +kernel
theorem dX3_sortFor_2 : decode cX3_sortFor 2 = .ok (.iload_n 2, 1) := by decide +kernel
theorem dX3_sortFor_3 : decode cX3_sortFor 3 = .ok (.aload_n 0, 1) := by decide +kernel
theorem dX3_sortFor_4 : decode cX3_sortFor 4 = .ok (.getfield 15, 3) := by decide +kernel
theorem dX3_sortFor_7 : decode cX3_sortFor 7 = .ok (.getfield 23, 3) := by decide +kernel
theorem dX3_sortFor_10 : decode cX3_sortFor 10 = .ok (.if_icmp .ge 36, 3) := by decide +kernel
theorem dX3_sortFor_13 : decode cX3_sortFor 13 = .ok (.aload_n 0, 1) := by decide +kernel
theorem dX3_sortFor_14 : decode cX3_sortFor 14 = .ok (.getfield 9, 3) := by decide +kernel
theorem dX3_sortFor_17 : decode cX3_sortFor 17 = .ok (.iload_n 2, 1) := by decide +kernel
theorem dX3_sortFor_18 : decode cX3_sortFor 18 = .ok (.aload_n 0, 1) := by decide +kernel
theorem dX3_sortFor_19 : decode cX3_sortFor 19 = .ok (.getfield 15, 3) := by decide +kernel
theorem dX3_sortFor_22 : decode cX3_sortFor 22 = .ok (.iload_n 2, 1) := by decide +kernel
theorem dX3_sortFor_23 : decode cX3_sortFor 23 = .ok (.iload_n 1, 1) := by decide +kernel
theorem dX3_sortFor_24 : decode cX3_sortFor 24 = .ok (.aload_n 0, 1) := by decide +kernel
theorem dX3_sortFor_25 : decode cX3_sortFor 25 = .ok (.getfield 19, 3) := by decide +kernel
theorem dX3_sortFor_28 : decode cX3_sortFor 28 = .ok (.invokevirtual 29, 3) := by decide +kernel
theorem dX3_sortFor_31 : decode cX3_sortFor 31 = .ok (.ifCond .eq 7, 3) := by decide +kernel
theorem dX3_sortFor_34 : decode cX3_sortFor 34 = .ok (.iload_n 2, 1) := by decide +kernel
theorem dX3_sortFor_35 : decode cX3_sortFor 35 = .ok (.goto 4, 3) := by decide +kernel
theorem dX3_sortFor_38 : decode cX3_sortFor 38 = .ok (.iconst (-1), 1) := by decide +kernel
theorem dX3_sortFor_39 : decode cX3_sortFor 39 = .ok (.iastore, 1) := by decide +kernel
theorem dX3_sortFor_40 : decode cX3_sortFor 40 = .ok (.iinc 2 1, 3) := by decide +kernel
theorem dX3_sortFor_43 : decode cX3_sortFor 43 = .ok (.goto (-41), 3) := by decide +kernel
theorem dX3_sortFor_46 : decode cX3_sortFor 46 = .ok (.iconst 1, 1) := by decide +kernel
theorem dX3_sortFor_47 : decode cX3_sortFor 47 = .ok (.istore_n 2, 1) := by decide +kernel
theorem dX3_sortFor_48 : decode cX3_sortFor 48 = .ok (.iload_n 2, 1) := by decide +kernel
theorem dX3_sortFor_49 : decode cX3_sortFor 49 = .ok (.aload_n 0, 1) := by decide +kernel
theorem dX3_sortFor_50 : decode cX3_sortFor 50 = .ok (.getfield 15, 3) := by decide +kernel
theorem dX3_sortFor_53 : decode cX3_sortFor 53 = .ok (.getfield 23, 3) := by decide +kernel
theorem dX3_sortFor_56 : decode cX3_sortFor 56 = .ok (.if_icmp .ge 24, 3) := by decide +kernel
theorem dX3_sortFor_59 : decode cX3_sortFor 59 = .ok (.aload_n 0, 1) := by decide +kernel
theorem dX3_sortFor_60 : decode cX3_sortFor 60 = .ok (.getfield 9, 3) := by decide +kernel
theorem dX3_sortFor_63 : decode cX3_sortFor 63 = .ok (.iload_n 2, 1) := by decide +kernel
theorem dX3_sortFor_64 : decode cX3_sortFor 64 = .ok (.iaload, 1) := by decide +kernel
theorem dX3_sortFor_65 : decode cX3_sortFor 65 = .ok (.iconst (-1), 1) := by decide +kernel
theorem dX3_sortFor_66 : decode cX3_sortFor 66 = .ok (.if_icmp .eq 8, 3) := by decide +kernel
theorem dX3_sortFor_69 : decode cX3_sortFor 69 = .ok (.aload_n 0, 1) := by decide +kernel
theorem dX3_sortFor_70 : decode cX3_sortFor 70 = .ok (.iload_n 2, 1) := by decide +kernel
theorem dX3_sortFor_71 : decode cX3_sortFor 71 = .ok (.invokevirtual 33, 3) := by decide +kernel
theorem dX3_sortFor_74 : decode cX3_sortFor 74 = .ok (.iinc 2 1, 3) := by decide +kernel
theorem dX3_sortFor_77 : decode cX3_sortFor 77 = .ok (.goto (-29), 3) := by decide +kernel
theorem dX3_sortFor_80 : decode cX3_sortFor 80 = .ok (.return_, 1) := by decide +kernel
set_option maxRecDepth 20000 in
theorem ggX3_joinToEarlier_X0_joined : GoodIn wsX3_joinToEarlier wsX0_joined := goodIn_r _ [7, 8, 9, 10, 11, 6, 12, 13, 14, 15, 16, 17, 34, 35, 36, 37, 38, 39, 40] (by decide +kernel) (by decide +kernel)
set_option maxRecDepth 20000 in
theorem gX3_joinToEarlier_X0_joined : GoodIn wsX3_joinToEarlier (wsV RX3 37 RX0 yX0_joined wsX0_joined) := goodIn_app (goodIn_of _ (by decide +kernel)) ggX3_joinToEarlier_X0_joined
set_option maxRecDepth 20000 in
theorem ggX3_joinToEarlier_X3_merge : GoodIn wsX3_joinToEarlier wsX3_merge := goodIn_r _ [22, 23, 24, 25, 26, 27, 28, 29, 2, 30, 1, 31, 32, 33, 34, 35, 36, 37, 38, 39, 40] (by decide +kernel) (by decide +kernel)
set_option maxRecDepth 20000 in
theorem gX3_joinToEarlier_X3_merge : GoodIn wsX3_joinToEarlier (wsV RX3 41 RX3 yX3_merge wsX3_merge) := goodIn_app (goodIn_of _ (by decide +kernel)) ggX3_joinToEarlier_X3_merge
theorem dX3_joinToEarlier_0 : decode cX3_joinToEarlier 0 = .ok (.iconst 0, 1) := by decide +kernel
theorem dX3_joinToEarlier_1 : decode cX3_joinToEarlier 1 = .ok (.istore_n 2, 1) := by decide +kernel
theorem dX3_joinToEarlier_2 : decode cX3_joinToEarlier 2 = .ok (.iload_n 2, 1) := by decide +kernel
theorem dX3_joinToEarlier_3 : decode cX3_joinToEarlier 3 = .ok (.iload_n 1, 1) := by decide +kernel
theorem dX3_joinToEarlier_4 : decode cX3_joinToEarlier 4 = .ok (.if_icmp .ge 62, 3) := by decide +kernel
theorem dX3_joinToEarlier_7 : decode cX3_joinToEarlier 7 = .ok (.aload_n 0, 1) := by decide +kernel
theorem dX3_joinToEarlier_8 : decode cX3_joinToEarlier 8 = .ok (.getfield 9, 3) := by decide +kernel
theorem dX3_joinToEarlier_11 : decode cX3_joinToEarlier 11 = .ok (.iload_n 2, 1) := by decide +kernel
theorem dX3_joinToEarlier_12 : decode cX3_joinToEarlier 12 = .ok (.iaload, 1) := by decide +kernel
theorem dX3_joinToEarlier_13 : decode cX3_joinToEarlier 13 = .ok (.iconst (-1), 1) := by decide +kernel
theorem dX3_joinToEarlier_14 : decode cX3_joinToEarlier 14 = .ok (.if_icmp .eq 46, 3) := by decide +kernel
theorem dX3_joinToEarlier_17 : decode cX3_joinToEarlier 17 = .ok (.aload_n 0, 1) := by decide +kernel
theorem dX3_joinToEarlier_18 : decode cX3_joinToEarlier 18 = .ok (.getfield 9, 3) := by decide +kernel
theorem dX3_joinToEarlier_21 : decode cX3_joinToEarlier 21 = .ok (.iload_n 2, 1) := by decide +kernel
theorem dX3_joinToEarlier_22 : decode cX3_joinToEarlier 22 = .ok (.iaload, 1) := by decide +kernel
theorem dX3_joinToEarlier_23 : decode cX3_joinToEarlier 23 = .ok (.aload_n 0, 1) := by decide +kernel
theorem dX3_joinToEarlier_24 : decode cX3_joinToEarlier 24 = .ok (.getfield 9, 3) := by decide +kernel
theorem dX3_joinToEarlier_27 : decode cX3_joinToEarlier 27 = .ok (.iload_n 1, 1) := by decide +kernel
theorem dX3_joinToEarlier_28 : decode cX3_joinToEarlier 28 = .ok (.iaload, 1) := by decide +kernel
theorem dX3_joinToEarlier_29 : decode cX3_joinToEarlier 29 = .ok (.if_icmp .eq 31, 3) := by decide +kernel
theorem dX3_joinToEarlier_32 : decode cX3_joinToEarlier 32 = .ok (.aload_n 0, 1) := by decide +kernel
theorem dX3_joinToEarlier_33 : decode cX3_joinToEarlier 33 = .ok (.getfield 15, 3) := by decide +kernel
theorem dX3_joinToEarlier_36 : decode cX3_joinToEarlier 36 = .ok (.iload_n 2, 1) := by decide +kernel
theorem dX3_joinToEarlier_37 : decode cX3_joinToEarlier 37 = .ok (.iload_n 1, 1) := by decide +kernel
theorem dX3_joinToEarlier_38 : decode cX3_joinToEarlier 38 = .ok (.invokevirtual 37, 3) := by decide +kernel
theorem dX3_joinToEarlier_41 : decode cX3_joinToEarlier 41 = .ok (.ifCond .eq 19, 3) := by decide +kernel
theorem dX3_joinToEarlier_44 : decode cX3_joinToEarlier 44 = .ok (.aload_n 0, 1) := by decide +kernel
theorem dX3_joinToEarlier_45 : decode cX3_joinToEarlier 45 = .ok (.aload_n 0, 1) := by decide +kernel
theorem dX3_joinToEarlier_46 : decode cX3_joinToEarlier 46 = .ok (.getfield 9, 3) := by decide +kernel
theorem dX3_joinToEarlier_49 : decode cX3_joinToEarlier 49 = .ok (.iload_n 2, 1) := by decide +kernel
theorem dX3_joinToEarlier_50 : decode cX3_joinToEarlier 50 = .ok (.iaload, 1) := by decide +kernel
theorem dX3_joinToEarlier_51 : decode cX3_joinToEarlier 51 = .ok (.aload_n 0, 1) := by decide +kernel
theorem dX3_joinToEarlier_52 : decode cX3_joinToEarlier 52 = .ok (.getfield 9, 3) := by decide +kernel
theorem dX3_joinToEarlier_55 : decode cX3_joinToEarlier 55 = .ok (.iload_n 1, 1) := by decide +kernel
theorem dX3_joinToEarlier_56 : decode cX3_joinToEarlier 56 = .ok (.iaload, 1) := by decide +kernel
theorem dX3_joinToEarlier_57 : decode cX3_joinToEarlier 57 = .ok (.invokevirtual 41, 3) := by decide +kernel
theorem dX3_joinToEarlier_60 : decode cX3_joinToEarlier 60 = .ok (.iinc 2 1, 3) := by decide +kernel
theorem dX3_joinToEarlier_63 : decode cX3_joinToEarlier 63 = .ok (.goto (-61), 3) := by decide +kernel
theorem dX3_joinToEarlier_66 : decode cX3_joinToEarlier 66 = .ok (.return_, 1) := by decide +kernel
theorem dX3_merge_0 : decode cX3_merge 0 = .ok (.iload_n 1, 1) := by decide +kernel
theorem dX3_merge_1 : decode cX3_merge 1 = .ok (.iload_n 2, 1) := by decide +kernel
theorem dX3_merge_2 : decode cX3_merge 2 = .ok (.invokestatic 45, 3) := by decide +kernel
theorem dX3_merge_5 : decode cX3_merge 5 = .ok (.istore_n 3, 1) := by decide +kernel
theorem dX3_merge_6 : decode cX3_merge 6 = .ok (.iload_n 1, 1) := by decide +kernel
theorem dX3_merge_7 : decode cX3_merge 7 = .ok (.iload_n 2, 1) := by decide +kernel
theorem dX3_merge_8 : decode cX3_merge 8 = .ok (.invokestatic 51, 3) := by decide +kernel
theorem dX3_merge_11 : decode cX3_merge 11 = .ok (.istore 4, 2) := by decide +kernel
theorem dX3_merge_13 : decode cX3_merge 13 = .ok (.iconst 0, 1) := by decide +kernel
theorem dX3_merge_14 : decode cX3_merge 14 = .ok (.istore 5, 2) := by decide +kernel
theorem dX3_merge_16 : decode cX3_merge 16 = .ok (.iload 5, 2) := by decide +kernel
theorem dX3_merge_18 : decode cX3_merge 18 = .ok (.aload_n 0, 1) := by decide +kernel
theorem dX3_merge_19 : decode cX3_merge 19 = .ok (.getfield 15, 3) := by decide +kernel
theorem dX3_merge_22 : decode cX3_merge 22 = .ok (.getfield 23, 3) := by decide +kernel
theorem dX3_merge_25 : decode cX3_merge 25 = .ok (.if_icmp .ge 29, 3) := by decide +kernel
theorem dX3_merge_28 : decode cX3_merge 28 = .ok (.aload_n 0, 1) := by decide +kernel
theorem dX3_merge_29 : decode cX3_merge 29 = .ok (.getfield 9, 3) := by decide +kernel
theorem dX3_merge_32 : decode cX3_merge 32 = .ok (.iload 5, 2) := by decide +kernel
theorem dX3_merge_34 : decode cX3_merge 34 = .ok (.iaload, 1) := by decide +kernel
theorem dX3_merge_35 : decode cX3_merge 35 = .ok (.iload 4, 2) := by decide +kernel
theorem dX3_merge_37 : decode cX3_merge 37 = .ok (.if_icmp .ne 11, 3) := by decide +kernel
theorem dX3_merge_40 : decode cX3_merge 40 = .ok (.aload_n 0, 1) := by decide +kernel
theorem dX3_merge_41 : decode cX3_merge 41 = .ok (.getfield 9, 3) := by decide +kernel
theorem dX3_merge_44 : decode cX3_merge 44 = .ok (.iload 5, 2) := by decide +kernel
theorem dX3_merge_46 : decode cX3_merge 46 = .ok (.iload_n 3, 1) := by decide +kernel
theorem dX3_merge_47 : decode cX3_merge 47 = .ok (.iastore, 1) := by decide +kernel
theorem dX3_merge_48 : decode cX3_merge 48 = .ok (.iinc 5 1, 3) := by decide +kernel
theorem dX3_merge_51 : decode cX3_merge 51 = .ok (.goto (-35), 3) := by decide +kernel
theorem dX3_merge_54 : decode cX3_merge 54 = .ok (.return_, 1) := by decide +kernel
theorem dX3_isThing_0 : decode cX3_isThing 0 = .ok (.aload_n 0, 1) := by decide +kernel
theorem dX3_isThing_1 : decode cX3_isThing 1 = .ok (.getfield 9, 3) := by decide +kernel
theorem dX3_isThing_4 : decode cX3_isThing 4 = .ok (.iload_n 1, 1) := by decide +kernel
theorem dX3_isThing_5 : decode cX3_isThing 5 = .ok (.iaload, 1) := by decide +kernel
theorem dX3_isThing_6 : decode cX3_isThing 6 = .ok (.iload_n 1, 1) := by decide +kernel
theorem dX3_isThing_7 : decode cX3_isThing 7 = .ok (.if_icmp .ne 7, 3) := by decide +kernel
theorem dX3_isThing_10 : decode cX3_isThing 10 = .ok (.iconst 1, 1) := by decide +kernel
theorem dX3_isThing_11 : decode cX3_isThing 11 = .ok (.goto 4, 3) := by decide +kernel
theorem dX3_isThing_14 : decode cX3_isThing 14 = .ok (.iconst 0, 1) := by decide +kernel
theorem dX3_isThing_15 : decode cX3_isThing 15 = .ok (.ireturn, 1) := by decide +kernel
set_option maxRecDepth 20000 in
theorem ggX3_attributeOf_X3_tells : GoodIn wsX3_attributeOf wsX3_tells := goodIn_r _ [8, 9, 1, 3, 17, 18, 19, 20, 21, 22, 23, 24, 25, 26] (by decide +kernel) (by decide +kernel)
set_option maxRecDepth 20000 in
theorem gX3_attributeOf_X3_tells : GoodIn wsX3_attributeOf (wsV RX3 54 RX3 yX3_tells wsX3_tells) := goodIn_app (goodIn_of _ (by decide +kernel)) ggX3_attributeOf_X3_tells
set_option maxRecDepth 20000 in
theorem ggX3_attributeOf_X3_goesBefore : GoodIn wsX3_attributeOf wsX3_goesBefore := goodIn_r _ [13, 14, 15, 1, 16, 17, 18, 19, 27, 28, 20, 21, 22, 23, 24, 25, 26] (by decide +kernel) (by decide +kernel)
set_option maxRecDepth 20000 in
theorem gX3_attributeOf_X3_goesBefore : GoodIn wsX3_attributeOf (wsV RX3 58 RX3 yX3_goesBefore wsX3_goesBefore) := goodIn_app (goodIn_of _ (by decide +kernel)) ggX3_attributeOf_X3_goesBefore
theorem dX3_attributeOf_0 : decode cX3_attributeOf 0 = .ok (.iconst (-1), 1) := by decide +kernel
theorem dX3_attributeOf_1 : decode cX3_attributeOf 1 = .ok (.istore_n 3, 1) := by decide +kernel
theorem dX3_attributeOf_2 : decode cX3_attributeOf 2 = .ok (.iconst 0, 1) := by decide +kernel
theorem dX3_attributeOf_3 : decode cX3_attributeOf 3 = .ok (.istore 4, 2) := by decide +kernel
theorem dX3_attributeOf_5 : decode cX3_attributeOf 5 = .ok (.iload 4, 2) := by decide +kernel
theorem dX3_attributeOf_7 : decode cX3_attributeOf 7 = .ok (.aload_n 0, 1) := by decide +kernel
theorem dX3_attributeOf_8 : decode cX3_attributeOf 8 = .ok (.getfield 15, 3) := by decide +kernel
theorem dX3_attributeOf_11 : decode cX3_attributeOf 11 = .ok (.getfield 23, 3) := by decide +kernel
theorem dX3_attributeOf_14 : decode cX3_attributeOf 14 = .ok (.if_icmp .ge 38, 3) := by decide +kernel
theorem dX3_attributeOf_17 : decode cX3_attributeOf 17 = .ok (.aload_n 0, 1) := by decide +kernel
theorem dX3_attributeOf_18 : decode cX3_attributeOf 18 = .ok (.iload_n 1, 1) := by decide +kernel
theorem dX3_attributeOf_19 : decode cX3_attributeOf 19 = .ok (.iload_n 2, 1) := by decide +kernel
theorem dX3_attributeOf_20 : decode cX3_attributeOf 20 = .ok (.iload 4, 2) := by decide +kernel
theorem dX3_attributeOf_22 : decode cX3_attributeOf 22 = .ok (.invokevirtual 54, 3) := by decide +kernel
theorem dX3_attributeOf_25 : decode cX3_attributeOf 25 = .ok (.ifCond .eq 21, 3) := by decide +kernel
theorem dX3_attributeOf_28 : decode cX3_attributeOf 28 = .ok (.iload_n 3, 1) := by decide +kernel
theorem dX3_attributeOf_29 : decode cX3_attributeOf 29 = .ok (.iconst (-1), 1) := by decide +kernel
theorem dX3_attributeOf_30 : decode cX3_attributeOf 30 = .ok (.if_icmp .eq 13, 3) := by decide +kernel
theorem dX3_attributeOf_33 : decode cX3_attributeOf 33 = .ok (.aload_n 0, 1) := by decide +kernel
theorem dX3_attributeOf_34 : decode cX3_attributeOf 34 = .ok (.iload 4, 2) := by decide +kernel
theorem dX3_attributeOf_36 : decode cX3_attributeOf 36 = .ok (.iload_n 3, 1) := by decide +kernel
theorem dX3_attributeOf_37 : decode cX3_attributeOf 37 = .ok (.invokevirtual 58, 3) := by decide +kernel
theorem dX3_attributeOf_40 : decode cX3_attributeOf 40 = .ok (.ifCond .eq 6, 3) := by decide +kernel
theorem dX3_attributeOf_43 : decode cX3_attributeOf 43 = .ok (.iload 4, 2) := by decide +kernel
theorem dX3_attributeOf_45 : decode cX3_attributeOf 45 = .ok (.istore_n 3, 1) := by decide +kernel
theorem dX3_attributeOf_46 : decode cX3_attributeOf 46 = .ok (.iinc 4 1, 3) := by decide +kernel
theorem dX3_attributeOf_49 : decode cX3_attributeOf 49 = .ok (.goto (-44), 3) := by decide +kernel
theorem dX3_attributeOf_52 : decode cX3_attributeOf 52 = .ok (.iload_n 3, 1) := by decide +kernel
theorem dX3_attributeOf_53 : decode cX3_attributeOf 53 = .ok (.iconst (-1), 1) := by decide +kernel
theorem dX3_attributeOf_54 : decode cX3_attributeOf 54 = .ok (.if_icmp .ne 7, 3) := by decide +kernel
theorem dX3_attributeOf_57 : decode cX3_attributeOf 57 = .ok (.iconst (-1), 1) := by decide +kernel
theorem dX3_attributeOf_58 : decode cX3_attributeOf 58 = .ok (.goto 14, 3) := by decide +kernel
theorem dX3_attributeOf_61 : decode cX3_attributeOf 61 = .ok (.aload_n 0, 1) := by decide +kernel
theorem dX3_attributeOf_62 : decode cX3_attributeOf 62 = .ok (.getfield 15, 3) := by decide +kernel
theorem dX3_attributeOf_65 : decode cX3_attributeOf 65 = .ok (.getfield 61, 3) := by decide +kernel
theorem dX3_attributeOf_68 : decode cX3_attributeOf 68 = .ok (.iload_n 2, 1) := by decide +kernel
theorem dX3_attributeOf_69 : decode cX3_attributeOf 69 = .ok (.aaload, 1) := by decide +kernel
theorem dX3_attributeOf_70 : decode cX3_attributeOf 70 = .ok (.iload_n 3, 1) := by decide +kernel
theorem dX3_attributeOf_71 : decode cX3_attributeOf 71 = .ok (.iaload, 1) := by decide +kernel
theorem dX3_attributeOf_72 : decode cX3_attributeOf 72 = .ok (.ireturn, 1) := by decide +kernel
theorem dX3_goesBefore_0 : decode cX3_goesBefore 0 = .ok (.aload_n 0, 1) := by decide +kernel
theorem dX3_goesBefore_1 : decode cX3_goesBefore 1 = .ok (.getfield 19, 3) := by decide +kernel
theorem dX3_goesBefore_4 : decode cX3_goesBefore 4 = .ok (.getfield 65, 3) := by decide +kernel
theorem dX3_goesBefore_7 : decode cX3_goesBefore 7 = .ok (.aload_n 0, 1) := by decide +kernel
theorem dX3_goesBefore_8 : decode cX3_goesBefore 8 = .ok (.getfield 15, 3) := by decide +kernel
theorem dX3_goesBefore_11 : decode cX3_goesBefore 11 = .ok (.getfield 70, 3) := by decide +kernel
theorem dX3_goesBefore_14 : decode cX3_goesBefore 14 = .ok (.iload_n 1, 1) := by decide +kernel
theorem dX3_goesBefore_15 : decode cX3_goesBefore 15 = .ok (.iaload, 1) := by decide +kernel
theorem dX3_goesBefore_16 : decode cX3_goesBefore 16 = .ok (.iaload, 1) := by decide +kernel
theorem dX3_goesBefore_17 : decode cX3_goesBefore 17 = .ok (.istore_n 3, 1) := by decide +kernel
theorem dX3_goesBefore_18 : decode cX3_goesBefore 18 = .ok (.aload_n 0, 1) := by decide +kernel
theorem dX3_goesBefore_19 : decode cX3_goesBefore 19 = .ok (.getfield 19, 3) := by decide +kernel
theorem dX3_goesBefore_22 : decode cX3_goesBefore 22 = .ok (.getfield 65, 3) := by decide +kernel
theorem dX3_goesBefore_25 : decode cX3_goesBefore 25 = .ok (.aload_n 0, 1) := by decide +kernel
theorem dX3_goesBefore_26 : decode cX3_goesBefore 26 = .ok (.getfield 15, 3) := by decide +kernel
theorem dX3_goesBefore_29 : decode cX3_goesBefore 29 = .ok (.getfield 70, 3) := by decide +kernel
theorem dX3_goesBefore_32 : decode cX3_goesBefore 32 = .ok (.iload_n 2, 1) := by decide +kernel
theorem dX3_goesBefore_33 : decode cX3_goesBefore 33 = .ok (.iaload, 1) := by decide +kernel
theorem dX3_goesBefore_34 : decode cX3_goesBefore 34 = .ok (.iaload, 1) := by decide +kernel
theorem dX3_goesBefore_35 : decode cX3_goesBefore 35 = .ok (.istore 4, 2) := by decide +kernel
theorem dX3_goesBefore_37 : decode cX3_goesBefore 37 = .ok (.iload_n 3, 1) := by decide +kernel
theorem dX3_goesBefore_38 : decode cX3_goesBefore 38 = .ok (.iload 4, 2) := by decide +kernel
theorem dX3_goesBefore_40 : decode cX3_goesBefore 40 = .ok (.if_icmp .gt 7, 3) := by decide +kernel
theorem dX3_goesBefore_43 : decode cX3_goesBefore 43 = .ok (.iconst 1, 1) := by decide +kernel
theorem dX3_goesBefore_44 : decode cX3_goesBefore 44 = .ok (.goto 4, 3) := by decide +kernel
theorem dX3_goesBefore_47 : decode cX3_goesBefore 47 = .ok (.iconst 0, 1) := by decide +kernel
theorem dX3_goesBefore_48 : decode cX3_goesBefore 48 = .ok (.ireturn, 1) := by decide +kernel
set_option maxRecDepth 20000 in
theorem ggX3_hasUnlikeValues_X3_tells : GoodIn wsX3_hasUnlikeValues wsX3_tells := goodIn_r _ [8, 9, 1, 3, 10, 11, 12, 13, 14, 15, 16, 17, 18, 19] (by decide +kernel) (by decide +kernel)
set_option maxRecDepth 20000 in
theorem gX3_hasUnlikeValues_X3_tells : GoodIn wsX3_hasUnlikeValues (wsV RX3 54 RX3 yX3_tells wsX3_tells) := goodIn_app (goodIn_of _ (by decide +kernel)) ggX3_hasUnlikeValues_X3_tells
theorem dX3_hasUnlikeValues_0 : decode cX3_hasUnlikeValues 0 = .ok (.iconst (-1), 1) := by decide +kernel
theorem dX3_hasUnlikeValues_1 : decode cX3_hasUnlikeValues 1 = .ok (.istore_n 3, 1) := by decide +kernel
theorem dX3_hasUnlikeValues_2 : decode cX3_hasUnlikeValues 2 = .ok (.iconst 0, 1) := by decide +kernel
theorem dX3_hasUnlikeValues_3 : decode cX3_hasUnlikeValues 3 = .ok (.istore 4, 2) := by decide +kernel
theorem dX3_hasUnlikeValues_5 : decode cX3_hasUnlikeValues 5 = .ok (.iload 4, 2) := by decide +kernel
theorem dX3_hasUnlikeValues_7 : decode cX3_hasUnlikeValues 7 = .ok (.aload_n 0, 1) := by decide +kernel
theorem dX3_hasUnlikeValues_8 : decode cX3_hasUnlikeValues 8 = .ok (.getfield 15, 3) := by decide +kernel
theorem dX3_hasUnlikeValues_11 : decode cX3_hasUnlikeValues 11 = .ok (.getfield 23, 3) := by decide +kernel
theorem dX3_hasUnlikeValues_14 : decode cX3_hasUnlikeValues 14 = .ok (.if_icmp .ge 50, 3) := by decide +kernel
theorem dX3_hasUnlikeValues_17 : decode cX3_hasUnlikeValues 17 = .ok (.aload_n 0, 1) := by decide +kernel
theorem dX3_hasUnlikeValues_18 : decode cX3_hasUnlikeValues 18 = .ok (.iload_n 1, 1) := by decide +kernel
theorem dX3_hasUnlikeValues_19 : decode cX3_hasUnlikeValues 19 = .ok (.iload_n 2, 1) := by decide +kernel
theorem dX3_hasUnlikeValues_20 : decode cX3_hasUnlikeValues 20 = .ok (.iload 4, 2) := by decide +kernel
theorem dX3_hasUnlikeValues_22 : decode cX3_hasUnlikeValues 22 = .ok (.invokevirtual 54, 3) := by decide +kernel
theorem dX3_hasUnlikeValues_25 : decode cX3_hasUnlikeValues 25 = .ok (.ifCond .eq 33, 3) := by decide +kernel
theorem dX3_hasUnlikeValues_28 : decode cX3_hasUnlikeValues 28 = .ok (.aload_n 0, 1) := by decide +kernel
theorem dX3_hasUnlikeValues_29 : decode cX3_hasUnlikeValues 29 = .ok (.getfield 15, 3) := by decide +kernel
theorem dX3_hasUnlikeValues_32 : decode cX3_hasUnlikeValues 32 = .ok (.getfield 61, 3) := by decide +kernel
theorem dX3_hasUnlikeValues_35 : decode cX3_hasUnlikeValues 35 = .ok (.iload_n 2, 1) := by decide +kernel
theorem dX3_hasUnlikeValues_36 : decode cX3_hasUnlikeValues 36 = .ok (.aaload, 1) := by decide +kernel
theorem dX3_hasUnlikeValues_37 : decode cX3_hasUnlikeValues 37 = .ok (.iload 4, 2) := by decide +kernel
theorem dX3_hasUnlikeValues_39 : decode cX3_hasUnlikeValues 39 = .ok (.iaload, 1) := by decide +kernel
theorem dX3_hasUnlikeValues_40 : decode cX3_hasUnlikeValues 40 = .ok (.istore 5, 2) := by decide +kernel
theorem dX3_hasUnlikeValues_42 : decode cX3_hasUnlikeValues 42 = .ok (.iload_n 3, 1) := by decide +kernel
theorem dX3_hasUnlikeValues_43 : decode cX3_hasUnlikeValues 43 = .ok (.iconst (-1), 1) := by decide +kernel
theorem dX3_hasUnlikeValues_44 : decode cX3_hasUnlikeValues 44 = .ok (.if_icmp .eq 11, 3) := by decide +kernel
theorem dX3_hasUnlikeValues_47 : decode cX3_hasUnlikeValues 47 = .ok (.iload 5, 2) := by decide +kernel
theorem dX3_hasUnlikeValues_49 : decode cX3_hasUnlikeValues 49 = .ok (.iload_n 3, 1) := by decide +kernel
theorem dX3_hasUnlikeValues_50 : decode cX3_hasUnlikeValues 50 = .ok (.if_icmp .eq 5, 3) := by decide +kernel
theorem dX3_hasUnlikeValues_53 : decode cX3_hasUnlikeValues 53 = .ok (.iconst 1, 1) := by decide +kernel
theorem dX3_hasUnlikeValues_54 : decode cX3_hasUnlikeValues 54 = .ok (.ireturn, 1) := by decide +kernel
theorem dX3_hasUnlikeValues_55 : decode cX3_hasUnlikeValues 55 = .ok (.iload 5, 2) := by decide +kernel
theorem dX3_hasUnlikeValues_57 : decode cX3_hasUnlikeValues 57 = .ok (.istore_n 3, 1) := by decide +kernel
theorem dX3_hasUnlikeValues_58 : decode cX3_hasUnlikeValues 58 = .ok (.iinc 4 1, 3) := by decide +kernel
theorem dX3_hasUnlikeValues_61 : decode cX3_hasUnlikeValues 61 = .ok (.goto (-56), 3) := by decide +kernel
theorem dX3_hasUnlikeValues_64 : decode cX3_hasUnlikeValues 64 = .ok (.iconst 0, 1) := by decide +kernel
theorem dX3_hasUnlikeValues_65 : decode cX3_hasUnlikeValues 65 = .ok (.ireturn, 1) := by decide +kernel
theorem dX3_tells_0 : decode cX3_tells 0 = .ok (.aload_n 0, 1) := by decide +kernel
theorem dX3_tells_1 : decode cX3_tells 1 = .ok (.getfield 9, 3) := by decide +kernel
theorem dX3_tells_4 : decode cX3_tells 4 = .ok (.iload_n 3, 1) := by decide +kernel
theorem dX3_tells_5 : decode cX3_tells 5 = .ok (.iaload, 1) := by decide +kernel
theorem dX3_tells_6 : decode cX3_tells 6 = .ok (.iload_n 1, 1) := by decide +kernel
theorem dX3_tells_7 : decode cX3_tells 7 = .ok (.if_icmp .ne 22, 3) := by decide +kernel
theorem dX3_tells_10 : decode cX3_tells 10 = .ok (.aload_n 0, 1) := by decide +kernel
theorem dX3_tells_11 : decode cX3_tells 11 = .ok (.getfield 15, 3) := by decide +kernel
theorem dX3_tells_14 : decode cX3_tells 14 = .ok (.getfield 61, 3) := by decide +kernel
theorem dX3_tells_17 : decode cX3_tells 17 = .ok (.iload_n 2, 1) := by decide +kernel
theorem dX3_tells_18 : decode cX3_tells 18 = .ok (.aaload, 1) := by decide +kernel
theorem dX3_tells_19 : decode cX3_tells 19 = .ok (.iload_n 3, 1) := by decide +kernel
theorem dX3_tells_20 : decode cX3_tells 20 = .ok (.iaload, 1) := by decide +kernel
theorem dX3_tells_21 : decode cX3_tells 21 = .ok (.iconst (-1), 1) := by decide +kernel
theorem dX3_tells_22 : decode cX3_tells 22 = .ok (.if_icmp .eq 7, 3) := by decide +kernel
theorem dX3_tells_25 : decode cX3_tells 25 = .ok (.iconst 1, 1) := by decide +kernel
theorem dX3_tells_26 : decode cX3_tells 26 = .ok (.goto 4, 3) := by decide +kernel
theorem dX3_tells_29 : decode cX3_tells 29 = .ok (.iconst 0, 1) := by decide +kernel
theorem dX3_tells_30 : decode cX3_tells 30 = .ok (.ireturn, 1) := by decide +kernel
theorem dX3_hasMark_0 : decode cX3_hasMark 0 = .ok (.iconst 0, 1) := by decide +kernel
theorem dX3_hasMark_1 : decode cX3_hasMark 1 = .ok (.istore 4, 2) := by decide +kernel
theorem dX3_hasMark_3 : decode cX3_hasMark 3 = .ok (.iload 4, 2) := by decide +kernel
theorem dX3_hasMark_5 : decode cX3_hasMark 5 = .ok (.aload_n 0, 1) := by decide +kernel
theorem dX3_hasMark_6 : decode cX3_hasMark 6 = .ok (.getfield 15, 3) := by decide +kernel
theorem dX3_hasMark_9 : decode cX3_hasMark 9 = .ok (.getfield 23, 3) := by decide +kernel
theorem dX3_hasMark_12 : decode cX3_hasMark 12 = .ok (.if_icmp .ge 38, 3) := by decide +kernel
theorem dX3_hasMark_15 : decode cX3_hasMark 15 = .ok (.aload_n 0, 1) := by decide +kernel
theorem dX3_hasMark_16 : decode cX3_hasMark 16 = .ok (.getfield 9, 3) := by decide +kernel
theorem dX3_hasMark_19 : decode cX3_hasMark 19 = .ok (.iload 4, 2) := by decide +kernel
theorem dX3_hasMark_21 : decode cX3_hasMark 21 = .ok (.iaload, 1) := by decide +kernel
theorem dX3_hasMark_22 : decode cX3_hasMark 22 = .ok (.iload_n 1, 1) := by decide +kernel
theorem dX3_hasMark_23 : decode cX3_hasMark 23 = .ok (.if_icmp .ne 21, 3) := by decide +kernel
theorem dX3_hasMark_26 : decode cX3_hasMark 26 = .ok (.aload_n 0, 1) := by decide +kernel
theorem dX3_hasMark_27 : decode cX3_hasMark 27 = .ok (.getfield 15, 3) := by decide +kernel
theorem dX3_hasMark_30 : decode cX3_hasMark 30 = .ok (.getfield 73, 3) := by decide +kernel
theorem dX3_hasMark_33 : decode cX3_hasMark 33 = .ok (.iload_n 2, 1) := by decide +kernel
theorem dX3_hasMark_34 : decode cX3_hasMark 34 = .ok (.aaload, 1) := by decide +kernel
theorem dX3_hasMark_35 : decode cX3_hasMark 35 = .ok (.iload 4, 2) := by decide +kernel
theorem dX3_hasMark_37 : decode cX3_hasMark 37 = .ok (.iaload, 1) := by decide +kernel
theorem dX3_hasMark_38 : decode cX3_hasMark 38 = .ok (.iload_n 3, 1) := by decide +kernel
theorem dX3_hasMark_39 : decode cX3_hasMark 39 = .ok (.if_icmp .ne 5, 3) := by decide +kernel
theorem dX3_hasMark_42 : decode cX3_hasMark 42 = .ok (.iconst 1, 1) := by decide +kernel
theorem dX3_hasMark_43 : decode cX3_hasMark 43 = .ok (.ireturn, 1) := by decide +kernel
theorem dX3_hasMark_44 : decode cX3_hasMark 44 = .ok (.iinc 4 1, 3) := by decide +kernel
theorem dX3_hasMark_47 : decode cX3_hasMark 47 = .ok (.goto (-44), 3) := by decide +kernel
theorem dX3_hasMark_50 : decode cX3_hasMark 50 = .ok (.iconst 0, 1) := by decide +kernel
theorem dX3_hasMark_51 : decode cX3_hasMark 51 = .ok (.ireturn, 1) := by decide +kernel
theorem dX4_init_0 : decode cX4_init 0 = .ok (.aload_n 0, 1) := by decide +kernel
theorem dX4_init_1 : decode cX4_init 1 = .ok (.invokespecial 3, 3) := by decide +kernel
theorem dX4_init_4 : decode cX4_init 4 = .ok (.aload_n 0, 1) := by decide +kernel
theorem dX4_init_5 : decode cX4_init 5 = .ok (.iconst 0, 1) := by decide +kernel
theorem dX4_init_6 : decode cX4_init 6 = .ok (.putfield 9, 3) := by decide +kernel
theorem dX4_init_9 : decode cX4_init 9 = .ok (.aload_n 0, 1) := by decide +kernel
theorem dX4_init_10 : decode cX4_init 10 = .ok (.bipush 20, 2) := by decide +kernel
theorem dX4_init_12 : decode cX4_init 12 = .ok (.newarray .int, 2) := by decide +kernel
theorem dX4_init_14 : decode cX4_init 14 = .ok (.putfield 15, 3) := by decide +kernel
theorem dX4_init_17 : decode cX4_init 17 = .ok (.aload_n 0, 1) := by decide +kernel
theorem dX4_init_18 : decode cX4_init 18 = .ok (.bipush 20, 2) := by decide +kernel
theorem dX4_init_20 : decode cX4_init 20 = .ok (.newarray .int, 2) := by decide +kernel
theorem dX4_init_22 : decode cX4_init 22 = .ok (.putfield 19, 3) := by decide +kernel
theorem dX4_init_25 : decode cX4_init 25 = .ok (.aload_n 0, 1) := by decide +kernel
theorem dX4_init_26 : decode cX4_init 26 = .ok (.bipush 20, 2) := by decide +kernel
theorem dX4_init_28 : decode cX4_init 28 = .ok (.newarray .int, 2) := by decide +kernel
theorem dX4_init_30 : decode cX4_init 30 = .ok (.putfield 22, 3) := by decide +kernel
theorem dX4_init_33 : decode cX4_init 33 = .ok (.aload_n 0, 1) := by decide +kernel
theorem dX4_init_34 : decode cX4_init 34 = .ok (.bipush 20, 2) := by decide +kernel
theorem dX4_init_36 : decode cX4_init 36 = .ok (.newarray .int, 2) := by decide +kernel
theorem dX4_init_38 : decode cX4_init 38 = .ok (.putfield 25, 3) := by decide +kernel
theorem dX4_init_41 : decode cX4_init 41 = .ok (.return_, 1) := by decide +kernel
theorem dX4_add_0 : decode cX4_add 0 = .ok (.aload_n 0, 1) := by decide +kernel
theorem dX4_add_1 : decode cX4_add 1 = .ok (.getfield 9, 3) := by decide +kernel
theorem dX4_add_4 : decode cX4_add 4 = .ok (.istore 5, 2) := by decide +kernel
theorem dX4_add_6 : decode cX4_add 6 = .ok (.aload_n 0, 1) := by decide +kernel
theorem dX4_add_7 : decode cX4_add 7 = .ok (.getfield 15, 3) := by decide +kernel
theorem dX4_add_10 : decode cX4_add 10 = .ok (.iload 5, 2) := by decide +kernel
theorem dX4_add_12 : decode cX4_add 12 = .ok (.iload_n 1, 1) := by decide +kernel
theorem dX4_add_13 : decode cX4_add 13 = .ok (.iastore, 1) := by decide +kernel
theorem dX4_add_14 : decode cX4_add 14 = .ok (.aload_n 0, 1) := by decide +kernel
theorem dX4_add_15 : decode cX4_add 15 = .ok (.getfield 19, 3) := by decide +kernel
theorem dX4_add_18 : decode cX4_add 18 = .ok (.iload 5, 2) := by decide +kernel
theorem dX4_add_20 : decode cX4_add 20 = .ok (.iload_n 2, 1) := by decide +kernel
theorem dX4_add_21 : decode cX4_add 21 = .ok (.iastore, 1) := by decide +kernel
theorem dX4_add_22 : decode cX4_add 22 = .ok (.aload_n 0, 1) := by decide +kernel
theorem dX4_add_23 : decode cX4_add 23 = .ok (.getfield 22, 3) := by decide +kernel
theorem dX4_add_26 : decode cX4_add 26 = .ok (.iload 5, 2) := by decide +kernel
theorem dX4_add_28 : decode cX4_add 28 = .ok (.iload_n 3, 1) := by decide +kernel
theorem dX4_add_29 : decode cX4_add 29 = .ok (.iastore, 1) := by decide +kernel
theorem dX4_add_30 : decode cX4_add 30 = .ok (.aload_n 0, 1) := by decide +kernel
theorem dX4_add_31 : decode cX4_add 31 = .ok (.getfield 25, 3) := by decide +kernel
theorem dX4_add_34 : decode cX4_add 34 = .ok (.iload 5, 2) := by decide +kernel
theorem dX4_add_36 : decode cX4_add 36 = .ok (.iload 4, 2) := by decide +kernel
theorem dX4_add_38 : decode cX4_add 38 = .ok (.iastore, 1) := by decide +kernel
theorem dX4_add_39 : decode cX4_add 39 = .ok (.aload_n 0, 1) := by decide +kernel
theorem dX4_add_40 : decode cX4_add 40 = .ok (.dup, 1) := by decide +kernel
theorem dX4_add_41 : decode cX4_add 41 = .ok (.getfield 9, 3) := by decide +kernel
theorem dX4_add_44 : decode cX4_add 44 = .ok (.iconst 1, 1) := by decide +kernel
theorem dX4_add_45 : decode cX4_add 45 = .ok (.iadd, 1) := by decide +kernel
theorem dX4_add_46 : decode cX4_add 46 = .ok (.putfield 9, 3) := by decide +kernel
theorem dX4_add_49 : decode cX4_add 49 = .ok (.iload 5, 2) := by decide +kernel
theorem dX4_add_51 : decode cX4_add 51 = .ok (.ireturn, 1) := by decide +kernel
set_option maxRecDepth 20000 in
theorem ggX4_isMissedBy_X3_hasMark : GoodIn wsX4_isMissedBy wsX3_hasMark := goodIn_r _ [9, 10, 11, 12, 13, 35, 36, 37, 38, 39, 40, 41, 42, 43, 44] (by decide +kernel) (by decide +kernel)
set_option maxRecDepth 20000 in
theorem gX4_isMissedBy_X3_hasMark : GoodIn wsX4_isMissedBy (wsV RX4 28 RX3 yX3_hasMark wsX3_hasMark) := goodIn_app (goodIn_of _ (by decide +kernel)) ggX4_isMissedBy_X3_hasMark
set_option maxRecDepth 20000 in
theorem ggX4_isMissedBy_X3_attributeOf : GoodIn wsX4_isMissedBy wsX3_attributeOf := goodIn_r _ [17, 10, 11, 18, 19, 20, 21, 8, 22, 12, 23, 24, 25, 26, 27, 28, 29, 35, 36, 37, 38, 39, 40, 41, 42, 43, 44, 45, 46] (by decide +kernel) (by decide +kernel)
set_option maxRecDepth 20000 in
theorem gX4_isMissedBy_X3_attributeOf : GoodIn wsX4_isMissedBy (wsV RX4 34 RX3 yX3_attributeOf wsX3_attributeOf) := goodIn_app (goodIn_of _ (by decide +kernel)) ggX4_isMissedBy_X3_attributeOf
theorem dX4_isMissedBy_0 : decode cX4_isMissedBy 0 = .ok (.aload_n 3, 1) := by decide +kernel
theorem dX4_isMissedBy_1 : decode cX4_isMissedBy 1 = .ok (.iload_n 1, 1) := by decide +kernel
theorem dX4_isMissedBy_2 : decode cX4_isMissedBy 2 = .ok (.aload_n 0, 1) := by decide +kernel
theorem dX4_isMissedBy_3 : decode cX4_isMissedBy 3 = .ok (.getfield 15, 3) := by decide +kernel
theorem dX4_isMissedBy_6 : decode cX4_isMissedBy 6 = .ok (.iload_n 2, 1) := by decide +kernel
theorem dX4_isMissedBy_7 : decode cX4_isMissedBy 7 = .ok (.iaload, 1) := by decide +kernel
theorem dX4_isMissedBy_8 : decode cX4_isMissedBy 8 = .ok (.aload_n 0, 1) := by decide +kernel
theorem dX4_isMissedBy_9 : decode cX4_isMissedBy 9 = .ok (.getfield 19, 3) := by decide +kernel
theorem dX4_isMissedBy_12 : decode cX4_isMissedBy 12 = .ok (.iload_n 2, 1) := by decide +kernel
theorem dX4_isMissedBy_13 : decode cX4_isMissedBy 13 = .ok (.iaload, 1) := by decide +kernel
theorem dX4_isMissedBy_14 : decode cX4_isMissedBy 14 = .ok (.invokevirtual 28, 3) := by decide +kernel
theorem dX4_isMissedBy_17 : decode cX4_isMissedBy 17 = .ok (.ifCond .eq 27, 3) := by decide +kernel
theorem dX4_isMissedBy_20 : decode cX4_isMissedBy 20 = .ok (.aload_n 3, 1) := by decide +kernel
theorem dX4_isMissedBy_21 : decode cX4_isMissedBy 21 = .ok (.iload_n 1, 1) := by decide +kernel
theorem dX4_isMissedBy_22 : decode cX4_isMissedBy 22 = .ok (.aload_n 0, 1) := by decide +kernel
theorem dX4_isMissedBy_23 : decode cX4_isMissedBy 23 = .ok (.getfield 22, 3) := by decide +kernel
theorem dX4_isMissedBy_26 : decode cX4_isMissedBy 26 = .ok (.iload_n 2, 1) := by decide +kernel
theorem dX4_isMissedBy_27 : decode cX4_isMissedBy 27 = .ok (.iaload, 1) := by decide +kernel
theorem dX4_isMissedBy_28 : decode cX4_isMissedBy 28 = .ok (.invokevirtual 34, 3) := by decide +kernel
theorem dX4_isMissedBy_31 : decode cX4_isMissedBy 31 = .ok (.aload_n 0, 1) := by decide +kernel
theorem dX4_isMissedBy_32 : decode cX4_isMissedBy 32 = .ok (.getfield 25, 3) := by decide +kernel
theorem dX4_isMissedBy_35 : decode cX4_isMissedBy 35 = .ok (.iload_n 2, 1) := by decide +kernel
theorem dX4_isMissedBy_36 : decode cX4_isMissedBy 36 = .ok (.iaload, 1) := by decide +kernel
theorem dX4_isMissedBy_37 : decode cX4_isMissedBy 37 = .ok (.if_icmp .eq 7, 3) := by decide +kernel
theorem dX4_isMissedBy_40 : decode cX4_isMissedBy 40 = .ok (.iconst 1, 1) := by decide +kernel
theorem dX4_isMissedBy_41 : decode cX4_isMissedBy 41 = .ok (.goto 4, 3) := by decide +kernel
theorem dX4_isMissedBy_44 : decode cX4_isMissedBy 44 = .ok (.iconst 0, 1) := by decide +kernel
theorem dX4_isMissedBy_45 : decode cX4_isMissedBy 45 = .ok (.ireturn, 1) := by decide +kernel
set_option maxRecDepth 20000 in
theorem ggX5_init_X2_init : GoodIn wsX5_init wsX2_init := goodIn_r _ [28, 29, 2, 3, 30, 31, 32, 75, 76] (by decide +kernel) (by decide +kernel)
set_option maxRecDepth 20000 in
theorem gX5_init_X2_init : GoodIn wsX5_init (wsX2_init) := ggX5_init_X2_init
set_option maxRecDepth 20000 in
theorem ggX5_init_X0_init : GoodIn wsX5_init wsX0_init := goodIn_r _ [34, 35, 2, 3, 36, 30, 37, 38, 39, 40, 41, 42, 43, 44, 77, 78, 79, 80, 81, 82, 83] (by decide +kernel) (by decide +kernel)
set_option maxRecDepth 20000 in
theorem gX5_init_X0_init_n22 : GoodIn wsX5_init (wsX0_init) := ggX5_init_X0_init
set_option maxRecDepth 20000 in
theorem ggX5_init_X1_init : GoodIn wsX5_init wsX1_init := goodIn_r _ [46, 47, 2, 3, 48, 30, 49, 50, 51, 39, 52, 84, 85, 86, 87, 88] (by decide +kernel) (by decide +kernel)
set_option maxRecDepth 20000 in
theorem gX5_init_X1_init_n29 : GoodIn wsX5_init (wsX1_init) := ggX5_init_X1_init
set_option maxRecDepth 20000 in
theorem ggX5_init_X4_init : GoodIn wsX5_init wsX4_init := goodIn_r _ [54, 55, 2, 3, 56, 30, 57, 58, 59, 60, 89, 90, 91, 92, 93] (by decide +kernel) (by decide +kernel)
set_option maxRecDepth 20000 in
theorem gX5_init_X4_init_n36 : GoodIn wsX5_init (wsX4_init) := ggX5_init_X4_init
set_option maxRecDepth 20000 in
theorem ggX5_init_X3_init : GoodIn wsX5_init wsX3_init := goodIn_r _ [63, 64, 2, 3, 30, 65, 66, 67, 94, 95, 96] (by decide +kernel) (by decide +kernel)
set_option maxRecDepth 20000 in
theorem gX5_init_X3_init : GoodIn wsX5_init (wsX3_init) := ggX5_init_X3_init
theorem dX5_init_0 : decode cX5_init 0 = .ok (.aload_n 0, 1) := by decide +kernel
theorem dX5_init_1 : decode cX5_init 1 = .ok (.invokespecial 1, 3) := by decide +kernel
theorem dX5_init_4 : decode cX5_init 4 = .ok (.aload_n 0, 1) := by decide +kernel
theorem dX5_init_5 : decode cX5_init 5 = .ok (.iconst 0, 1) := by decide +kernel
theorem dX5_init_6 : decode cX5_init 6 = .ok (.putfield 7, 3) := by decide +kernel
theorem dX5_init_9 : decode cX5_init 9 = .ok (.aload_n 0, 1) := by decide +kernel
theorem dX5_init_10 : decode cX5_init 10 = .ok (.new 13, 3) := by decide +kernel
theorem dX5_init_13 : decode cX5_init 13 = .ok (.dup, 1) := by decide +kernel
theorem dX5_init_14 : decode cX5_init 14 = .ok (.invokespecial 15, 3) := by decide +kernel
theorem dX5_init_17 : decode cX5_init 17 = .ok (.putfield 16, 3) := by decide +kernel
theorem dX5_init_20 : decode cX5_init 20 = .ok (.aload_n 0, 1) := by decide +kernel
theorem dX5_init_21 : decode cX5_init 21 = .ok (.new 20, 3) := by decide +kernel
theorem dX5_init_24 : decode cX5_init 24 = .ok (.dup, 1) := by decide +kernel
theorem dX5_init_25 : decode cX5_init 25 = .ok (.invokespecial 22, 3) := by decide +kernel
theorem dX5_init_28 : decode cX5_init 28 = .ok (.putfield 23, 3) := by decide +kernel
theorem dX5_init_31 : decode cX5_init 31 = .ok (.aload_n 0, 1) := by decide +kernel
theorem dX5_init_32 : decode cX5_init 32 = .ok (.new 27, 3) := by decide +kernel
theorem dX5_init_35 : decode cX5_init 35 = .ok (.dup, 1) := by decide +kernel
theorem dX5_init_36 : decode cX5_init 36 = .ok (.invokespecial 29, 3) := by decide +kernel
theorem dX5_init_39 : decode cX5_init 39 = .ok (.putfield 30, 3) := by decide +kernel
theorem dX5_init_42 : decode cX5_init 42 = .ok (.aload_n 0, 1) := by decide +kernel
theorem dX5_init_43 : decode cX5_init 43 = .ok (.new 34, 3) := by decide +kernel
theorem dX5_init_46 : decode cX5_init 46 = .ok (.dup, 1) := by decide +kernel
theorem dX5_init_47 : decode cX5_init 47 = .ok (.invokespecial 36, 3) := by decide +kernel
theorem dX5_init_50 : decode cX5_init 50 = .ok (.putfield 37, 3) := by decide +kernel
theorem dX5_init_53 : decode cX5_init 53 = .ok (.aload_n 0, 1) := by decide +kernel
theorem dX5_init_54 : decode cX5_init 54 = .ok (.new 41, 3) := by decide +kernel
theorem dX5_init_57 : decode cX5_init 57 = .ok (.dup, 1) := by decide +kernel
theorem dX5_init_58 : decode cX5_init 58 = .ok (.aload_n 0, 1) := by decide +kernel
theorem dX5_init_59 : decode cX5_init 59 = .ok (.getfield 23, 3) := by decide +kernel
theorem dX5_init_62 : decode cX5_init 62 = .ok (.aload_n 0, 1) := by decide +kernel
theorem dX5_init_63 : decode cX5_init 63 = .ok (.getfield 16, 3) := by decide +kernel
theorem dX5_init_66 : decode cX5_init 66 = .ok (.invokespecial 43, 3) := by decide +kernel
theorem dX5_init_69 : decode cX5_init 69 = .ok (.putfield 46, 3) := by decide +kernel
theorem dX5_init_72 : decode cX5_init 72 = .ok (.aload_n 0, 1) := by decide +kernel
theorem dX5_init_73 : decode cX5_init 73 = .ok (.new 41, 3) := by decide +kernel
theorem dX5_init_76 : decode cX5_init 76 = .ok (.dup, 1) := by decide +kernel
theorem dX5_init_77 : decode cX5_init 77 = .ok (.aload_n 0, 1) := by decide +kernel
theorem dX5_init_78 : decode cX5_init 78 = .ok (.getfield 23, 3) := by decide +kernel
theorem dX5_init_81 : decode cX5_init 81 = .ok (.aload_n 0, 1) := by decide +kernel
theorem dX5_init_82 : decode cX5_init 82 = .ok (.getfield 16, 3) := by decide +kernel
theorem dX5_init_85 : decode cX5_init 85 = .ok (.invokespecial 43, 3) := by decide +kernel
theorem dX5_init_88 : decode cX5_init 88 = .ok (.putfield 50, 3) := by decide +kernel
theorem dX5_init_91 : decode cX5_init 91 = .ok (.return_, 1) := by decide +kernel
set_option maxRecDepth 20000 in
theorem ggX5_pass_X5_requireRange : GoodIn wsX5_pass wsX5_requireRange := goodIn_ca (goodIn_r _ [7, 8, 9] (by decide +kernel) (by decide +kernel)) (goodIn_sub (fun _ h => List.mem_cons_of_mem _ (List.mem_append_right _ h)) (by decide +kernel))
set_option maxRecDepth 20000 in
theorem gX5_pass_X5_requireRange : GoodIn wsX5_pass (va_wsS RX5 53 yX5_requireRange wsX5_requireRange) := goodIn_app (goodIn_of _ (by decide +kernel)) ggX5_pass_X5_requireRange
theorem dX5_pass_0 : decode cX5_pass 0 = .ok (.iload_n 1, 1) := by decide +kernel
theorem dX5_pass_1 : decode cX5_pass 1 = .ok (.iconst 1, 1) := by decide +kernel
theorem dX5_pass_2 : decode cX5_pass 2 = .ok (.sipush 1000, 3) := by decide +kernel
theorem dX5_pass_5 : decode cX5_pass 5 = .ok (.invokestatic 53, 3) := by decide +kernel
theorem dX5_pass_8 : decode cX5_pass 8 = .ok (.aload_n 0, 1) := by decide +kernel
theorem dX5_pass_9 : decode cX5_pass 9 = .ok (.getfield 7, 3) := by decide +kernel
theorem dX5_pass_12 : decode cX5_pass 12 = .ok (.iload_n 1, 1) := by decide +kernel
theorem dX5_pass_13 : decode cX5_pass 13 = .ok (.iadd, 1) := by decide +kernel
theorem dX5_pass_14 : decode cX5_pass 14 = .ok (.sipush 9999, 3) := by decide +kernel
theorem dX5_pass_17 : decode cX5_pass 17 = .ok (.if_icmp .le 13, 3) := by decide +kernel
theorem dX5_pass_20 : decode cX5_pass 20 = .ok (.new 57, 3) := by decide +kernel
theorem dX5_pass_23 : decode cX5_pass 23 = .ok (.dup, 1) := by decide +kernel
theorem dX5_pass_24 : decode cX5_pass 24 = .ok (.ldc 59, 2) := by decide +kernel
theorem dX5_pass_26 : decode cX5_pass 26 = .ok (.invokespecial 61, 3) := by decide +kernel
theorem dX5_pass_29 : decode cX5_pass 29 = .ok (.athrow, 1) := by decide +kernel
theorem dX5_pass_30 : decode cX5_pass 30 = .ok (.aload_n 0, 1) := by decide +kernel
theorem dX5_pass_31 : decode cX5_pass 31 = .ok (.dup, 1) := by decide +kernel
theorem dX5_pass_32 : decode cX5_pass 32 = .ok (.getfield 7, 3) := by decide +kernel
theorem dX5_pass_35 : decode cX5_pass 35 = .ok (.iload_n 1, 1) := by decide +kernel
theorem dX5_pass_36 : decode cX5_pass 36 = .ok (.iadd, 1) := by decide +kernel
theorem dX5_pass_37 : decode cX5_pass 37 = .ok (.putfield 7, 3) := by decide +kernel
theorem dX5_pass_40 : decode cX5_pass 40 = .ok (.aload_n 0, 1) := by decide +kernel
theorem dX5_pass_41 : decode cX5_pass 41 = .ok (.getfield 7, 3) := by decide +kernel
theorem dX5_pass_44 : decode cX5_pass 44 = .ok (.ireturn, 1) := by decide +kernel
theorem dX5_today_0 : decode cX5_today 0 = .ok (.aload_n 0, 1) := by decide +kernel
theorem dX5_today_1 : decode cX5_today 1 = .ok (.getfield 7, 3) := by decide +kernel
theorem dX5_today_4 : decode cX5_today 4 = .ok (.ireturn, 1) := by decide +kernel
set_option maxRecDepth 20000 in
theorem ggX5_setTerm_X5_requireRange : GoodIn wsX5_setTerm wsX5_requireRange := goodIn_ca (goodIn_r _ [6, 7, 8] (by decide +kernel) (by decide +kernel)) (goodIn_sub (fun _ h => List.mem_cons_of_mem _ (List.mem_append_right _ h)) (by decide +kernel))
set_option maxRecDepth 20000 in
theorem gX5_setTerm_X5_requireRange : GoodIn wsX5_setTerm (va_wsS RX5 53 yX5_requireRange wsX5_requireRange) := goodIn_app (goodIn_of _ (by decide +kernel)) ggX5_setTerm_X5_requireRange
theorem dX5_setTerm_0 : decode cX5_setTerm 0 = .ok (.iload_n 1, 1) := by decide +kernel
theorem dX5_setTerm_1 : decode cX5_setTerm 1 = .ok (.iconst 0, 1) := by decide +kernel
theorem dX5_setTerm_2 : decode cX5_setTerm 2 = .ok (.iconst 3, 1) := by decide +kernel
theorem dX5_setTerm_3 : decode cX5_setTerm 3 = .ok (.invokestatic 53, 3) := by decide +kernel
theorem dX5_setTerm_6 : decode cX5_setTerm 6 = .ok (.iload_n 2, 1) := by decide +kernel
theorem dX5_setTerm_7 : decode cX5_setTerm 7 = .ok (.iconst 1, 1) := by decide +kernel
theorem dX5_setTerm_8 : decode cX5_setTerm 8 = .ok (.sipush 999, 3) := by decide +kernel
theorem dX5_setTerm_11 : decode cX5_setTerm 11 = .ok (.invokestatic 53, 3) := by decide +kernel
theorem dX5_setTerm_14 : decode cX5_setTerm 14 = .ok (.aload_n 0, 1) := by decide +kernel
theorem dX5_setTerm_15 : decode cX5_setTerm 15 = .ok (.getfield 16, 3) := by decide +kernel
theorem dX5_setTerm_18 : decode cX5_setTerm 18 = .ok (.getfield 64, 3) := by decide +kernel
theorem dX5_setTerm_21 : decode cX5_setTerm 21 = .ok (.iload_n 1, 1) := by decide +kernel
theorem dX5_setTerm_22 : decode cX5_setTerm 22 = .ok (.iaload, 1) := by decide +kernel
theorem dX5_setTerm_23 : decode cX5_setTerm 23 = .ok (.istore_n 3, 1) := by decide +kernel
theorem dX5_setTerm_24 : decode cX5_setTerm 24 = .ok (.aload_n 0, 1) := by decide +kernel
theorem dX5_setTerm_25 : decode cX5_setTerm 25 = .ok (.getfield 16, 3) := by decide +kernel
theorem dX5_setTerm_28 : decode cX5_setTerm 28 = .ok (.getfield 64, 3) := by decide +kernel
theorem dX5_setTerm_31 : decode cX5_setTerm 31 = .ok (.iload_n 1, 1) := by decide +kernel
theorem dX5_setTerm_32 : decode cX5_setTerm 32 = .ok (.iload_n 2, 1) := by decide +kernel
theorem dX5_setTerm_33 : decode cX5_setTerm 33 = .ok (.iastore, 1) := by decide +kernel
theorem dX5_setTerm_34 : decode cX5_setTerm 34 = .ok (.iload_n 3, 1) := by decide +kernel
theorem dX5_setTerm_35 : decode cX5_setTerm 35 = .ok (.ireturn, 1) := by decide +kernel
set_option maxRecDepth 20000 in
theorem ggX5_putFirst_X5_requireRange : GoodIn wsX5_putFirst wsX5_requireRange := goodIn_ca (goodIn_r _ [5, 6, 7] (by decide +kernel) (by decide +kernel)) (goodIn_sub (fun _ h => List.mem_cons_of_mem _ (List.mem_append_right _ h)) (by decide +kernel))
set_option maxRecDepth 20000 in
theorem gX5_putFirst_X5_requireRange : GoodIn wsX5_putFirst (va_wsS RX5 53 yX5_requireRange wsX5_requireRange) := goodIn_app (goodIn_of _ (by decide +kernel)) ggX5_putFirst_X5_requireRange
set_option maxRecDepth 20000 in
theorem ggX5_putFirst_X2_moveToFront : GoodIn wsX5_putFirst wsX2_moveToFront := goodIn_r _ [12, 13, 21, 22] (by decide +kernel) (by decide +kernel)
set_option maxRecDepth 20000 in
theorem gX5_putFirst_X2_moveToFront : GoodIn wsX5_putFirst (wsV RX5 68 RX2 yX2_moveToFront wsX2_moveToFront) := goodIn_app (goodIn_of _ (by decide +kernel)) ggX5_putFirst_X2_moveToFront
theorem dX5_putFirst_0 : decode cX5_putFirst 0 = .ok (.iload_n 1, 1) := by decide +kernel
theorem dX5_putFirst_1 : decode cX5_putFirst 1 = .ok (.iconst 0, 1) := by decide +kernel
theorem dX5_putFirst_2 : decode cX5_putFirst 2 = .ok (.iconst 3, 1) := by decide +kernel
theorem dX5_putFirst_3 : decode cX5_putFirst 3 = .ok (.invokestatic 53, 3) := by decide +kernel
theorem dX5_putFirst_6 : decode cX5_putFirst 6 = .ok (.aload_n 0, 1) := by decide +kernel
theorem dX5_putFirst_7 : decode cX5_putFirst 7 = .ok (.getfield 16, 3) := by decide +kernel
theorem dX5_putFirst_10 : decode cX5_putFirst 10 = .ok (.iload_n 1, 1) := by decide +kernel
theorem dX5_putFirst_11 : decode cX5_putFirst 11 = .ok (.invokevirtual 68, 3) := by decide +kernel
theorem dX5_putFirst_14 : decode cX5_putFirst 14 = .ok (.ireturn, 1) := by decide +kernel
set_option maxRecDepth 20000 in
theorem ggX5_find_X5_requireRange : GoodIn wsX5_find wsX5_requireRange := goodIn_ca (goodIn_r _ [9, 10, 11] (by decide +kernel) (by decide +kernel)) (goodIn_sub (fun _ h => List.mem_cons_of_mem _ (List.mem_append_right _ h)) (by decide +kernel))
set_option maxRecDepth 20000 in
theorem gX5_find_X5_requireRange : GoodIn wsX5_find (va_wsS RX5 53 yX5_requireRange wsX5_requireRange) := goodIn_app (goodIn_of _ (by decide +kernel)) ggX5_find_X5_requireRange
set_option maxRecDepth 20000 in
theorem ggX5_find_X0_take : GoodIn wsX5_find wsX0_take := goodIn_r _ [16, 17, 18, 19, 37, 38, 39, 40, 41, 42, 43] (by decide +kernel) (by decide +kernel)
set_option maxRecDepth 20000 in
theorem gX5_find_X0_take : GoodIn wsX5_find (wsV RX5 77 RX0 yX0_take wsX0_take) := goodIn_app (goodIn_of _ (by decide +kernel)) ggX5_find_X0_take
set_option maxRecDepth 20000 in
theorem ggX5_find_X0_putMarks : GoodIn wsX5_find wsX0_putMarks := goodIn_r _ [23, 24, 37, 38, 39, 40, 41, 42, 43] (by decide +kernel) (by decide +kernel)
set_option maxRecDepth 20000 in
theorem gX5_find_X0_putMarks : GoodIn wsX5_find (wsV RX5 81 RX0 yX0_putMarks wsX0_putMarks) := goodIn_app (goodIn_of _ (by decide +kernel)) ggX5_find_X0_putMarks
set_option maxRecDepth 20000 in
theorem ggX5_find_X0_putAttributes : GoodIn wsX5_find wsX0_putAttributes := goodIn_r _ [28, 29, 37, 38, 39, 40, 41, 42, 43] (by decide +kernel) (by decide +kernel)
set_option maxRecDepth 20000 in
theorem gX5_find_X0_putAttributes : GoodIn wsX5_find (wsV RX5 85 RX0 yX0_putAttributes wsX0_putAttributes) := goodIn_app (goodIn_of _ (by decide +kernel)) ggX5_find_X0_putAttributes
theorem dX5_find_0 : decode cX5_find 0 = .ok (.iload_n 1, 1) := by decide +kernel
theorem dX5_find_1 : decode cX5_find 1 = .ok (.iconst 0, 1) := by decide +kernel
theorem dX5_find_2 : decode cX5_find 2 = .ok (.iconst 3, 1) := by decide +kernel
theorem dX5_find_3 : decode cX5_find 3 = .ok (.invokestatic 53, 3) := by decide +kernel
theorem dX5_find_6 : decode cX5_find 6 = .ok (.iload_n 2, 1) := by decide +kernel
theorem dX5_find_7 : decode cX5_find 7 = .ok (.iconst 0, 1) := by decide +kernel
theorem dX5_find_8 : decode cX5_find 8 = .ok (.bipush 99, 2) := by decide +kernel
theorem dX5_find_10 : decode cX5_find 10 = .ok (.invokestatic 53, 3) := by decide +kernel
theorem dX5_find_13 : decode cX5_find 13 = .ok (.iload_n 3, 1) := by decide +kernel
theorem dX5_find_14 : decode cX5_find 14 = .ok (.iconst 0, 1) := by decide +kernel
theorem dX5_find_15 : decode cX5_find 15 = .ok (.bipush 99, 2) := by decide +kernel
theorem dX5_find_17 : decode cX5_find 17 = .ok (.invokestatic 53, 3) := by decide +kernel
theorem dX5_find_20 : decode cX5_find 20 = .ok (.iload 4, 2) := by decide +kernel
theorem dX5_find_22 : decode cX5_find 22 = .ok (.iconst 0, 1) := by decide +kernel
theorem dX5_find_23 : decode cX5_find 23 = .ok (.bipush 99, 2) := by decide +kernel
theorem dX5_find_25 : decode cX5_find 25 = .ok (.invokestatic 53, 3) := by decide +kernel
theorem dX5_find_28 : decode cX5_find 28 = .ok (.iload 5, 2) := by decide +kernel
theorem dX5_find_30 : decode cX5_find 30 = .ok (.iconst (-1), 1) := by decide +kernel
theorem dX5_find_31 : decode cX5_find 31 = .ok (.bipush 99, 2) := by decide +kernel
theorem dX5_find_33 : decode cX5_find 33 = .ok (.invokestatic 53, 3) := by decide +kernel
theorem dX5_find_36 : decode cX5_find 36 = .ok (.iload 6, 2) := by decide +kernel
theorem dX5_find_38 : decode cX5_find 38 = .ok (.iconst (-1), 1) := by decide +kernel
theorem dX5_find_39 : decode cX5_find 39 = .ok (.bipush 99, 2) := by decide +kernel
theorem dX5_find_41 : decode cX5_find 41 = .ok (.invokestatic 53, 3) := by decide +kernel
theorem dX5_find_44 : decode cX5_find 44 = .ok (.aload_n 0, 1) := by decide +kernel
theorem dX5_find_45 : decode cX5_find 45 = .ok (.getfield 23, 3) := by decide +kernel
theorem dX5_find_48 : decode cX5_find 48 = .ok (.getfield 72, 3) := by decide +kernel
theorem dX5_find_51 : decode cX5_find 51 = .ok (.bipush 60, 2) := by decide +kernel
theorem dX5_find_53 : decode cX5_find 53 = .ok (.if_icmp .lt 13, 3) := by decide +kernel
theorem dX5_find_56 : decode cX5_find 56 = .ok (.new 57, 3) := by decide +kernel
theorem dX5_find_59 : decode cX5_find 59 = .ok (.dup, 1) := by decide +kernel
theorem dX5_find_60 : decode cX5_find 60 = .ok (.ldc 75, 2) := by decide +kernel
theorem dX5_find_62 : decode cX5_find 62 = .ok (.invokespecial 61, 3) := by decide +kernel
theorem dX5_find_65 : decode cX5_find 65 = .ok (.athrow, 1) := by decide +kernel
theorem dX5_find_66 : decode cX5_find 66 = .ok (.aload_n 0, 1) := by decide +kernel
theorem dX5_find_67 : decode cX5_find 67 = .ok (.getfield 23, 3) := by decide +kernel
theorem dX5_find_70 : decode cX5_find 70 = .ok (.iload_n 1, 1) := by decide +kernel
theorem dX5_find_71 : decode cX5_find 71 = .ok (.aload_n 0, 1) := by decide +kernel
theorem dX5_find_72 : decode cX5_find 72 = .ok (.getfield 7, 3) := by decide +kernel
theorem dX5_find_75 : decode cX5_find 75 = .ok (.invokevirtual 77, 3) := by decide +kernel
theorem dX5_find_78 : decode cX5_find 78 = .ok (.istore 7, 2) := by decide +kernel
theorem dX5_find_80 : decode cX5_find 80 = .ok (.aload_n 0, 1) := by decide +kernel
theorem dX5_find_81 : decode cX5_find 81 = .ok (.getfield 23, 3) := by decide +kernel
theorem dX5_find_84 : decode cX5_find 84 = .ok (.iload 7, 2) := by decide +kernel
theorem dX5_find_86 : decode cX5_find 86 = .ok (.iload_n 2, 1) := by decide +kernel
theorem dX5_find_87 : decode cX5_find 87 = .ok (.iload_n 3, 1) := by decide +kernel
theorem dX5_find_88 : decode cX5_find 88 = .ok (.iload 4, 2) := by decide +kernel
theorem dX5_find_90 : decode cX5_find 90 = .ok (.invokevirtual 81, 3) := by decide +kernel
theorem dX5_find_93 : decode cX5_find 93 = .ok (.aload_n 0, 1) := by decide +kernel
theorem dX5_find_94 : decode cX5_find 94 = .ok (.getfield 23, 3) := by decide +kernel
theorem dX5_find_97 : decode cX5_find 97 = .ok (.iload 7, 2) := by decide +kernel
theorem dX5_find_99 : decode cX5_find 99 = .ok (.iload 5, 2) := by decide +kernel
theorem dX5_find_101 : decode cX5_find 101 = .ok (.iload 6, 2) := by decide +kernel
theorem dX5_find_103 : decode cX5_find 103 = .ok (.invokevirtual 85, 3) := by decide +kernel
theorem dX5_find_106 : decode cX5_find 106 = .ok (.iload 7, 2) := by decide +kernel
theorem dX5_find_108 : decode cX5_find 108 = .ok (.ireturn, 1) := by decide +kernel
set_option maxRecDepth 20000 in
theorem ggX5_strike_X5_requireFind : GoodIn wsX5_strike wsX5_requireFind := goodIn_ca (goodIn_r _ [7, 8, 9, 1, 10, 11, 12, 13, 14, 15, 16, 17, 18, 19, 20, 21, 22, 23, 24] (by decide +kernel) (by decide +kernel)) (goodIn_sub (fun _ h => List.mem_cons_of_mem _ (List.mem_append_right _ h)) (by decide +kernel))
set_option maxRecDepth 20000 in
theorem gX5_strike_X5_requireFind : GoodIn wsX5_strike (wsV RX5 88 RX5 yX5_requireFind wsX5_requireFind) := goodIn_app (goodIn_of _ (by decide +kernel)) ggX5_strike_X5_requireFind
theorem dX5_strike_0 : decode cX5_strike 0 = .ok (.aload_n 0, 1) := by decide +kernel
theorem dX5_strike_1 : decode cX5_strike 1 = .ok (.iload_n 1, 1) := by decide +kernel
theorem dX5_strike_2 : decode cX5_strike 2 = .ok (.invokevirtual 88, 3) := by decide +kernel
theorem dX5_strike_5 : decode cX5_strike 5 = .ok (.aload_n 0, 1) := by decide +kernel
theorem dX5_strike_6 : decode cX5_strike 6 = .ok (.getfield 23, 3) := by decide +kernel
theorem dX5_strike_9 : decode cX5_strike 9 = .ok (.getfield 92, 3) := by decide +kernel
theorem dX5_strike_12 : decode cX5_strike 12 = .ok (.iload_n 1, 1) := by decide +kernel
theorem dX5_strike_13 : decode cX5_strike 13 = .ok (.baload, 1) := by decide +kernel
theorem dX5_strike_14 : decode cX5_strike 14 = .ok (.ifCond .ne 7, 3) := by decide +kernel
theorem dX5_strike_17 : decode cX5_strike 17 = .ok (.iconst 1, 1) := by decide +kernel
theorem dX5_strike_18 : decode cX5_strike 18 = .ok (.goto 4, 3) := by decide +kernel
theorem dX5_strike_21 : decode cX5_strike 21 = .ok (.iconst 0, 1) := by decide +kernel
theorem dX5_strike_22 : decode cX5_strike 22 = .ok (.istore_n 2, 1) := by decide +kernel
theorem dX5_strike_23 : decode cX5_strike 23 = .ok (.aload_n 0, 1) := by decide +kernel
theorem dX5_strike_24 : decode cX5_strike 24 = .ok (.getfield 23, 3) := by decide +kernel
theorem dX5_strike_27 : decode cX5_strike 27 = .ok (.getfield 92, 3) := by decide +kernel
theorem dX5_strike_30 : decode cX5_strike 30 = .ok (.iload_n 1, 1) := by decide +kernel
theorem dX5_strike_31 : decode cX5_strike 31 = .ok (.iconst 1, 1) := by decide +kernel
theorem dX5_strike_32 : decode cX5_strike 32 = .ok (.bastore, 1) := by decide +kernel
theorem dX5_strike_33 : decode cX5_strike 33 = .ok (.iload_n 2, 1) := by decide +kernel
theorem dX5_strike_34 : decode cX5_strike 34 = .ok (.ireturn, 1) := by decide +kernel
set_option maxRecDepth 20000 in
theorem ggX5_tell_X5_requireFind : GoodIn wsX5_tell wsX5_requireFind := goodIn_ca (goodIn_r _ [7, 8, 9, 1, 10, 19, 20, 21, 22, 23, 24, 25, 26, 27, 28, 29, 30, 31, 32] (by decide +kernel) (by decide +kernel)) (goodIn_sub (fun _ h => List.mem_cons_of_mem _ (List.mem_append_left _ (List.mem_append_right _ h))) (by decide +kernel))
set_option maxRecDepth 20000 in
theorem gX5_tell_X5_requireFind : GoodIn wsX5_tell (wsV RX5 88 RX5 yX5_requireFind wsX5_requireFind) := goodIn_app (goodIn_of _ (by decide +kernel)) ggX5_tell_X5_requireFind
set_option maxRecDepth 20000 in
theorem ggX5_tell_X5_requireUnlike : GoodIn wsX5_tell wsX5_requireUnlike := goodIn_ca (goodIn_r _ [13, 14, 15] (by decide +kernel) (by decide +kernel)) (goodIn_sub (fun _ h => List.mem_cons_of_mem _ (List.mem_append_right _ h)) (by decide +kernel))
set_option maxRecDepth 20000 in
theorem gX5_tell_X5_requireUnlike : GoodIn wsX5_tell (va_wsS RX5 96 yX5_requireUnlike wsX5_requireUnlike) := goodIn_app (goodIn_of _ (by decide +kernel)) ggX5_tell_X5_requireUnlike
set_option maxRecDepth 20000 in
theorem ggX5_tell_X5_requireRange : GoodIn wsX5_tell wsX5_requireRange := goodIn_ca (goodIn_r _ [18, 14, 15] (by decide +kernel) (by decide +kernel)) (goodIn_sub (fun _ h => List.mem_cons_of_mem _ (List.mem_append_right _ h)) (by decide +kernel))
set_option maxRecDepth 20000 in
theorem gX5_tell_X5_requireRange : GoodIn wsX5_tell (va_wsS RX5 53 yX5_requireRange wsX5_requireRange) := goodIn_app (goodIn_of _ (by decide +kernel)) ggX5_tell_X5_requireRange
theorem dX5_tell_0 : decode cX5_tell 0 = .ok (.aload_n 0, 1) := by decide +kernel
theorem dX5_tell_1 : decode cX5_tell 1 = .ok (.iload_n 1, 1) := by decide +kernel
theorem dX5_tell_2 : decode cX5_tell 2 = .ok (.invokevirtual 88, 3) := by decide +kernel
theorem dX5_tell_5 : decode cX5_tell 5 = .ok (.aload_n 0, 1) := by decide +kernel
theorem dX5_tell_6 : decode cX5_tell 6 = .ok (.iload_n 2, 1) := by decide +kernel
theorem dX5_tell_7 : decode cX5_tell 7 = .ok (.invokevirtual 88, 3) := by decide +kernel
theorem dX5_tell_10 : decode cX5_tell 10 = .ok (.iload_n 1, 1) := by decide +kernel
theorem dX5_tell_11 : decode cX5_tell 11 = .ok (.iload_n 2, 1) := by decide +kernel
theorem dX5_tell_12 : decode cX5_tell 12 = .ok (.invokestatic 96, 3) := by decide +kernel
theorem dX5_tell_15 : decode cX5_tell 15 = .ok (.iload_n 3, 1) := by decide +kernel
theorem dX5_tell_16 : decode cX5_tell 16 = .ok (.iconst 0, 1) := by decide +kernel
theorem dX5_tell_17 : decode cX5_tell 17 = .ok (.iconst 2, 1) := by decide +kernel
theorem dX5_tell_18 : decode cX5_tell 18 = .ok (.invokestatic 53, 3) := by decide +kernel
theorem dX5_tell_21 : decode cX5_tell 21 = .ok (.aload_n 0, 1) := by decide +kernel
theorem dX5_tell_22 : decode cX5_tell 22 = .ok (.getfield 23, 3) := by decide +kernel
theorem dX5_tell_25 : decode cX5_tell 25 = .ok (.getfield 100, 3) := by decide +kernel
theorem dX5_tell_28 : decode cX5_tell 28 = .ok (.iload_n 1, 1) := by decide +kernel
theorem dX5_tell_29 : decode cX5_tell 29 = .ok (.aaload, 1) := by decide +kernel
theorem dX5_tell_30 : decode cX5_tell 30 = .ok (.iload_n 2, 1) := by decide +kernel
theorem dX5_tell_31 : decode cX5_tell 31 = .ok (.iaload, 1) := by decide +kernel
theorem dX5_tell_32 : decode cX5_tell 32 = .ok (.istore 4, 2) := by decide +kernel
theorem dX5_tell_34 : decode cX5_tell 34 = .ok (.aload_n 0, 1) := by decide +kernel
theorem dX5_tell_35 : decode cX5_tell 35 = .ok (.getfield 23, 3) := by decide +kernel
theorem dX5_tell_38 : decode cX5_tell 38 = .ok (.getfield 100, 3) := by decide +kernel
theorem dX5_tell_41 : decode cX5_tell 41 = .ok (.iload_n 1, 1) := by decide +kernel
theorem dX5_tell_42 : decode cX5_tell 42 = .ok (.aaload, 1) := by decide +kernel
theorem dX5_tell_43 : decode cX5_tell 43 = .ok (.iload_n 2, 1) := by decide +kernel
theorem dX5_tell_44 : decode cX5_tell 44 = .ok (.iload_n 3, 1) := by decide +kernel
theorem dX5_tell_45 : decode cX5_tell 45 = .ok (.iastore, 1) := by decide +kernel
theorem dX5_tell_46 : decode cX5_tell 46 = .ok (.aload_n 0, 1) := by decide +kernel
theorem dX5_tell_47 : decode cX5_tell 47 = .ok (.getfield 23, 3) := by decide +kernel
theorem dX5_tell_50 : decode cX5_tell 50 = .ok (.getfield 100, 3) := by decide +kernel
theorem dX5_tell_53 : decode cX5_tell 53 = .ok (.iload_n 2, 1) := by decide +kernel
theorem dX5_tell_54 : decode cX5_tell 54 = .ok (.aaload, 1) := by decide +kernel
theorem dX5_tell_55 : decode cX5_tell 55 = .ok (.iload_n 1, 1) := by decide +kernel
theorem dX5_tell_56 : decode cX5_tell 56 = .ok (.iload_n 3, 1) := by decide +kernel
theorem dX5_tell_57 : decode cX5_tell 57 = .ok (.iastore, 1) := by decide +kernel
theorem dX5_tell_58 : decode cX5_tell 58 = .ok (.iload 4, 2) := by decide +kernel
theorem dX5_tell_60 : decode cX5_tell 60 = .ok (.ireturn, 1) := by decide +kernel
set_option maxRecDepth 20000 in
theorem ggX5_counts_X5_requireFind : GoodIn wsX5_counts wsX5_requireFind := goodIn_ca (goodIn_r _ [7, 8, 9, 1, 10, 28, 29, 30, 31, 32, 33, 34, 35, 36, 37, 38, 39, 40, 41] (by decide +kernel) (by decide +kernel)) (goodIn_sub (fun _ h => List.mem_cons_of_mem _ (List.mem_append_left _ (List.mem_append_right _ h))) (by decide +kernel))
set_option maxRecDepth 20000 in
theorem gX5_counts_X5_requireFind : GoodIn wsX5_counts (wsV RX5 88 RX5 yX5_requireFind wsX5_requireFind) := goodIn_app (goodIn_of _ (by decide +kernel)) ggX5_counts_X5_requireFind
set_option maxRecDepth 20000 in
theorem ggX5_counts_X5_requireDay : GoodIn wsX5_counts wsX5_requireDay := goodIn_ca (goodIn_r _ [13, 14, 15, 6, 16, 17, 18] (by decide +kernel) (by decide +kernel)) (goodIn_sub (fun _ h => List.mem_cons_of_mem _ (List.mem_append_right _ h)) (by decide +kernel))
set_option maxRecDepth 20000 in
theorem gX5_counts_X5_requireDay : GoodIn wsX5_counts (va_wsS RX5 104 yX5_requireDay wsX5_requireDay) := goodIn_app (goodIn_of _ (by decide +kernel)) ggX5_counts_X5_requireDay
set_option maxRecDepth 20000 in
theorem ggX5_counts_X0_standsOn : GoodIn wsX5_counts wsX0_standsOn := goodIn_r _ [23, 24, 25, 26, 27, 35, 36, 37, 38, 39, 40, 41, 42, 43] (by decide +kernel) (by decide +kernel)
set_option maxRecDepth 20000 in
theorem gX5_counts_X0_standsOn : GoodIn wsX5_counts (wsV RX5 107 RX0 yX0_standsOn wsX0_standsOn) := goodIn_app (goodIn_of _ (by decide +kernel)) ggX5_counts_X0_standsOn
theorem dX5_counts_0 : decode cX5_counts 0 = .ok (.aload_n 0, 1) := by decide +kernel
theorem dX5_counts_1 : decode cX5_counts 1 = .ok (.iload_n 1, 1) := by decide +kernel
theorem dX5_counts_2 : decode cX5_counts 2 = .ok (.invokevirtual 88, 3) := by decide +kernel
theorem dX5_counts_5 : decode cX5_counts 5 = .ok (.iload_n 2, 1) := by decide +kernel
theorem dX5_counts_6 : decode cX5_counts 6 = .ok (.invokestatic 104, 3) := by decide +kernel
theorem dX5_counts_9 : decode cX5_counts 9 = .ok (.aload_n 0, 1) := by decide +kernel
theorem dX5_counts_10 : decode cX5_counts 10 = .ok (.getfield 23, 3) := by decide +kernel
theorem dX5_counts_13 : decode cX5_counts 13 = .ok (.iload_n 1, 1) := by decide +kernel
theorem dX5_counts_14 : decode cX5_counts 14 = .ok (.iload_n 2, 1) := by decide +kernel
theorem dX5_counts_15 : decode cX5_counts 15 = .ok (.aload_n 0, 1) := by decide +kernel
theorem dX5_counts_16 : decode cX5_counts 16 = .ok (.getfield 16, 3) := by decide +kernel
theorem dX5_counts_19 : decode cX5_counts 19 = .ok (.invokevirtual 107, 3) := by decide +kernel
theorem dX5_counts_22 : decode cX5_counts 22 = .ok (.ireturn, 1) := by decide +kernel
set_option maxRecDepth 20000 in
theorem ggX5_things_X5_requireDay : GoodIn wsX5_things wsX5_requireDay := goodIn_ca (goodIn_r _ [7, 8, 9, 6, 10, 11, 12] (by decide +kernel) (by decide +kernel)) (goodIn_sub (fun _ h => List.mem_cons_of_mem _ (List.mem_append_right _ h)) (by decide +kernel))
set_option maxRecDepth 20000 in
theorem gX5_things_X5_requireDay : GoodIn wsX5_things (va_wsS RX5 104 yX5_requireDay wsX5_requireDay) := goodIn_app (goodIn_of _ (by decide +kernel)) ggX5_things_X5_requireDay
set_option maxRecDepth 20000 in
theorem ggX5_things_X3_sortFor : GoodIn wsX5_things wsX3_sortFor := goodIn_r _ [17, 18, 19, 20, 21, 22, 23, 24, 25, 26, 27, 28, 29, 30, 31, 32, 33, 16, 34, 35, 36, 37, 38, 39, 40, 41, 42, 43, 44, 45, 46, 47, 48, 49, 50, 51, 52, 53, 54, 55, 56, 57, 58, 59, 78, 79, 80, 71, 72, 73, 74, 75, 76, 77, 81, 82] (by decide +kernel) (by decide +kernel)
set_option maxRecDepth 20000 in
theorem gX5_things_X3_sortFor : GoodIn wsX5_things (wsV RX5 111 RX3 yX3_sortFor wsX3_sortFor) := goodIn_app (goodIn_of _ (by decide +kernel)) ggX5_things_X3_sortFor
set_option maxRecDepth 20000 in
theorem ggX5_things_X3_isThing : GoodIn wsX5_things wsX3_isThing := goodIn_r _ [63, 20, 78, 79, 80] (by decide +kernel) (by decide +kernel)
set_option maxRecDepth 20000 in
theorem gX5_things_X3_isThing : GoodIn wsX5_things (wsV RX5 114 RX3 yX3_isThing wsX3_isThing) := goodIn_app (goodIn_of _ (by decide +kernel)) ggX5_things_X3_isThing
theorem dX5_things_0 : decode cX5_things 0 = .ok (.iload_n 1, 1) := by decide +kernel
theorem dX5_things_1 : decode cX5_things 1 = .ok (.invokestatic 104, 3) := by decide +kernel
theorem dX5_things_4 : decode cX5_things 4 = .ok (.aload_n 0, 1) := by decide +kernel
theorem dX5_things_5 : decode cX5_things 5 = .ok (.getfield 46, 3) := by decide +kernel
theorem dX5_things_8 : decode cX5_things 8 = .ok (.iload_n 1, 1) := by decide +kernel
theorem dX5_things_9 : decode cX5_things 9 = .ok (.invokevirtual 111, 3) := by decide +kernel
theorem dX5_things_12 : decode cX5_things 12 = .ok (.iconst 0, 1) := by decide +kernel
theorem dX5_things_13 : decode cX5_things 13 = .ok (.istore_n 2, 1) := by decide +kernel
theorem dX5_things_14 : decode cX5_things 14 = .ok (.iconst 0, 1) := by decide +kernel
theorem dX5_things_15 : decode cX5_things 15 = .ok (.istore_n 3, 1) := by decide +kernel
theorem dX5_things_16 : decode cX5_things 16 = .ok (.iload_n 3, 1) := by decide +kernel
theorem dX5_things_17 : decode cX5_things 17 = .ok (.aload_n 0, 1) := by decide +kernel
theorem dX5_things_18 : decode cX5_things 18 = .ok (.getfield 23, 3) := by decide +kernel
theorem dX5_things_21 : decode cX5_things 21 = .ok (.getfield 72, 3) := by decide +kernel
theorem dX5_things_24 : decode cX5_things 24 = .ok (.if_icmp .ge 23, 3) := by decide +kernel
theorem dX5_things_27 : decode cX5_things 27 = .ok (.aload_n 0, 1) := by decide +kernel
theorem dX5_things_28 : decode cX5_things 28 = .ok (.getfield 46, 3) := by decide +kernel
theorem dX5_things_31 : decode cX5_things 31 = .ok (.iload_n 3, 1) := by decide +kernel
theorem dX5_things_32 : decode cX5_things 32 = .ok (.invokevirtual 114, 3) := by decide +kernel
theorem dX5_things_35 : decode cX5_things 35 = .ok (.ifCond .eq 6, 3) := by decide +kernel
theorem dX5_things_38 : decode cX5_things 38 = .ok (.iinc 2 1, 3) := by decide +kernel
theorem dX5_things_41 : decode cX5_things 41 = .ok (.iinc 3 1, 3) := by decide +kernel
theorem dX5_things_44 : decode cX5_things 44 = .ok (.goto (-28), 3) := by decide +kernel
theorem dX5_things_47 : decode cX5_things 47 = .ok (.iload_n 2, 1) := by decide +kernel
theorem dX5_things_48 : decode cX5_things 48 = .ok (.ireturn, 1) := by decide +kernel
set_option maxRecDepth 20000 in
theorem ggX5_thingOf_X5_requireFind : GoodIn wsX5_thingOf wsX5_requireFind := goodIn_ca (goodIn_r _ [7, 8, 9, 10, 11, 73, 74, 75, 76, 77, 78, 79, 83, 84, 85, 86, 87, 88, 89] (by decide +kernel) (by decide +kernel)) (goodIn_sub (fun _ h => List.mem_cons_of_mem _ (List.mem_append_left _ (List.mem_append_left _ (List.mem_append_right _ h)))) (by decide +kernel))
set_option maxRecDepth 20000 in
theorem gX5_thingOf_X5_requireFind : GoodIn wsX5_thingOf (wsV RX5 88 RX5 yX5_requireFind wsX5_requireFind) := goodIn_app (goodIn_of _ (by decide +kernel)) ggX5_thingOf_X5_requireFind
set_option maxRecDepth 20000 in
theorem ggX5_thingOf_X5_requireDay : GoodIn wsX5_thingOf wsX5_requireDay := goodIn_ca (goodIn_r _ [14, 15, 16, 6, 17, 18, 19] (by decide +kernel) (by decide +kernel)) (goodIn_sub (fun _ h => List.mem_cons_of_mem _ (List.mem_append_left _ (List.mem_append_right _ h))) (by decide +kernel))
set_option maxRecDepth 20000 in
theorem gX5_thingOf_X5_requireDay : GoodIn wsX5_thingOf (va_wsS RX5 104 yX5_requireDay wsX5_requireDay) := goodIn_app (goodIn_of _ (by decide +kernel)) ggX5_thingOf_X5_requireDay
set_option maxRecDepth 20000 in
theorem ggX5_thingOf_X3_sortFor : GoodIn wsX5_thingOf wsX3_sortFor := goodIn_r _ [24, 25, 26, 27, 28, 29, 30, 31, 32, 33, 34, 35, 36, 37, 38, 39, 40, 23, 41, 42, 43, 44, 45, 46, 47, 48, 49, 50, 51, 52, 53, 54, 55, 56, 57, 58, 59, 60, 61, 62, 63, 64, 65, 66, 80, 81, 82, 83, 84, 85, 86, 87, 88, 89, 90, 91] (by decide +kernel) (by decide +kernel)
set_option maxRecDepth 20000 in
theorem gX5_thingOf_X3_sortFor : GoodIn wsX5_thingOf (wsV RX5 111 RX3 yX3_sortFor wsX3_sortFor) := goodIn_app (goodIn_of _ (by decide +kernel)) ggX5_thingOf_X3_sortFor
set_option maxRecDepth 20000 in
theorem ggX5_thingOf_X5_requireCounting : GoodIn wsX5_thingOf wsX5_requireCounting := goodIn_ca (goodIn_r _ [70, 71, 72, 1, 2, 73, 74, 75, 76, 77, 78, 79, 80, 81, 82] (by decide +kernel) (by decide +kernel)) (goodIn_sub (fun _ h => List.mem_cons_of_mem _ (List.mem_append_right _ h)) (by decide +kernel))
set_option maxRecDepth 20000 in
theorem gX5_thingOf_X5_requireCounting : GoodIn wsX5_thingOf (wsV RX5 118 RX5 yX5_requireCounting wsX5_requireCounting) := goodIn_app (goodIn_of _ (by decide +kernel)) ggX5_thingOf_X5_requireCounting
theorem dX5_thingOf_0 : decode cX5_thingOf 0 = .ok (.aload_n 0, 1) := by decide +kernel
theorem dX5_thingOf_1 : decode cX5_thingOf 1 = .ok (.iload_n 1, 1) := by decide +kernel
theorem dX5_thingOf_2 : decode cX5_thingOf 2 = .ok (.invokevirtual 88, 3) := by decide +kernel
theorem dX5_thingOf_5 : decode cX5_thingOf 5 = .ok (.iload_n 2, 1) := by decide +kernel
theorem dX5_thingOf_6 : decode cX5_thingOf 6 = .ok (.invokestatic 104, 3) := by decide +kernel
theorem dX5_thingOf_9 : decode cX5_thingOf 9 = .ok (.aload_n 0, 1) := by decide +kernel
theorem dX5_thingOf_10 : decode cX5_thingOf 10 = .ok (.getfield 46, 3) := by decide +kernel
theorem dX5_thingOf_13 : decode cX5_thingOf 13 = .ok (.iload_n 2, 1) := by decide +kernel
theorem dX5_thingOf_14 : decode cX5_thingOf 14 = .ok (.invokevirtual 111, 3) := by decide +kernel
theorem dX5_thingOf_17 : decode cX5_thingOf 17 = .ok (.aload_n 0, 1) := by decide +kernel
theorem dX5_thingOf_18 : decode cX5_thingOf 18 = .ok (.iload_n 1, 1) := by decide +kernel
theorem dX5_thingOf_19 : decode cX5_thingOf 19 = .ok (.invokevirtual 118, 3) := by decide +kernel
theorem dX5_thingOf_22 : decode cX5_thingOf 22 = .ok (.aload_n 0, 1) := by decide +kernel
theorem dX5_thingOf_23 : decode cX5_thingOf 23 = .ok (.getfield 46, 3) := by decide +kernel
theorem dX5_thingOf_26 : decode cX5_thingOf 26 = .ok (.getfield 121, 3) := by decide +kernel
theorem dX5_thingOf_29 : decode cX5_thingOf 29 = .ok (.iload_n 1, 1) := by decide +kernel
theorem dX5_thingOf_30 : decode cX5_thingOf 30 = .ok (.iaload, 1) := by decide +kernel
theorem dX5_thingOf_31 : decode cX5_thingOf 31 = .ok (.ireturn, 1) := by decide +kernel
set_option maxRecDepth 20000 in
theorem ggX5_value_X5_requireFind : GoodIn wsX5_value wsX5_requireFind := goodIn_ca (goodIn_r _ [7, 8, 9, 10, 11, 91, 92, 93, 94, 95, 96, 97, 101, 102, 103, 104, 105, 106, 107] (by decide +kernel) (by decide +kernel)) (goodIn_sub (fun _ h => List.mem_cons_of_mem _ (List.mem_append_left _ (List.mem_append_left _ (List.mem_append_right _ h)))) (by decide +kernel))
set_option maxRecDepth 20000 in
theorem gX5_value_X5_requireFind : GoodIn wsX5_value (wsV RX5 88 RX5 yX5_requireFind wsX5_requireFind) := goodIn_app (goodIn_of _ (by decide +kernel)) ggX5_value_X5_requireFind
set_option maxRecDepth 20000 in
theorem ggX5_value_X5_requireAttribute : GoodIn wsX5_value wsX5_requireAttribute := goodIn_ca (goodIn_r _ [14, 15, 16, 6, 17, 18, 19] (by decide +kernel) (by decide +kernel)) (goodIn_sub (fun _ h => List.mem_cons_of_mem _ (List.mem_append_left _ (List.mem_append_right _ h))) (by decide +kernel))
set_option maxRecDepth 20000 in
theorem gX5_value_X5_requireAttribute : GoodIn wsX5_value (va_wsS RX5 124 yX5_requireAttribute wsX5_requireAttribute) := goodIn_app (goodIn_of _ (by decide +kernel)) ggX5_value_X5_requireAttribute
set_option maxRecDepth 20000 in
theorem ggX5_value_X5_requireDay : GoodIn wsX5_value wsX5_requireDay := goodIn_ca (goodIn_r _ [22, 15, 16, 6, 17, 18, 19] (by decide +kernel) (by decide +kernel)) (goodIn_sub (fun _ h => List.mem_cons_of_mem _ (List.mem_append_left _ (List.mem_append_right _ h))) (by decide +kernel))
set_option maxRecDepth 20000 in
theorem gX5_value_X5_requireDay : GoodIn wsX5_value (va_wsS RX5 104 yX5_requireDay wsX5_requireDay) := goodIn_app (goodIn_of _ (by decide +kernel)) ggX5_value_X5_requireDay
set_option maxRecDepth 20000 in
theorem ggX5_value_X3_sortFor : GoodIn wsX5_value wsX3_sortFor := goodIn_r _ [27, 28, 29, 30, 31, 32, 33, 34, 35, 36, 37, 38, 39, 40, 41, 42, 43, 26, 44, 45, 46, 47, 48, 49, 50, 51, 52, 53, 54, 55, 56, 57, 58, 59, 60, 61, 62, 63, 64, 65, 66, 67, 68, 69, 98, 99, 100, 101, 102, 103, 104, 105, 106, 107, 108, 109] (by decide +kernel) (by decide +kernel)
set_option maxRecDepth 20000 in
theorem gX5_value_X3_sortFor : GoodIn wsX5_value (wsV RX5 111 RX3 yX3_sortFor wsX3_sortFor) := goodIn_app (goodIn_of _ (by decide +kernel)) ggX5_value_X3_sortFor
set_option maxRecDepth 20000 in
theorem ggX5_value_X5_requireCounting : GoodIn wsX5_value wsX5_requireCounting := goodIn_ca (goodIn_r _ [73, 74, 75, 1, 2, 91, 92, 93, 94, 95, 96, 97, 98, 99, 100] (by decide +kernel) (by decide +kernel)) (goodIn_sub (fun _ h => List.mem_cons_of_mem _ (List.mem_append_right _ h)) (by decide +kernel))
set_option maxRecDepth 20000 in
theorem gX5_value_X5_requireCounting : GoodIn wsX5_value (wsV RX5 118 RX5 yX5_requireCounting wsX5_requireCounting) := goodIn_app (goodIn_of _ (by decide +kernel)) ggX5_value_X5_requireCounting
set_option maxRecDepth 20000 in
theorem ggX5_value_X3_attributeOf : GoodIn wsX5_value wsX3_attributeOf := goodIn_r _ [79, 28, 29, 80, 81, 82, 83, 26, 84, 30, 85, 86, 87, 88, 31, 89, 90, 98, 99, 100, 101, 102, 103, 104, 105, 106, 107, 108, 109] (by decide +kernel) (by decide +kernel)
set_option maxRecDepth 20000 in
theorem gX5_value_X3_attributeOf : GoodIn wsX5_value (wsV RX5 127 RX3 yX3_attributeOf wsX3_attributeOf) := goodIn_app (goodIn_of _ (by decide +kernel)) ggX5_value_X3_attributeOf
