theorem dX6_join_68 : decode cX6_join 68 = .ok (.goto (-42), 3) := by decide +kernel
theorem dX6_join_71 : decode cX6_join 71 = .ok (.return_, 1) := by decide +kernel
theorem dX6_countThings_0 : decode cX6_countThings 0 = .ok (.iconst 0, 1) := by decide +kernel
theorem dX6_countThings_1 : decode cX6_countThings 1 = .ok (.istore_n 1, 1) := by decide +kernel
theorem dX6_countThings_2 : decode cX6_countThings 2 = .ok (.iconst 0, 1) := by decide +kernel
theorem dX6_countThings_3 : decode cX6_countThings 3 = .ok (.istore_n 2, 1) := by decide +kernel
theorem dX6_countThings_4 : decode cX6_countThings 4 = .ok (.iload_n 2, 1) := by decide +kernel
theorem dX6_countThings_5 : decode cX6_countThings 5 = .ok (.aload_n 0, 1) := by decide +kernel
theorem dX6_countThings_6 : decode cX6_countThings 6 = .ok (.getfield 70, 3) := by decide +kernel
theorem dX6_countThings_9 : decode cX6_countThings 9 = .ok (.if_icmp .ge 27, 3) := by decide +kernel
theorem dX6_countThings_12 : decode cX6_countThings 12 = .ok (.iload_n 1, 1) := by decide +kernel
theorem dX6_countThings_13 : decode cX6_countThings 13 = .ok (.aload_n 0, 1) := by decide +kernel
theorem dX6_countThings_14 : decode cX6_countThings 14 = .ok (.getfield 57, 3) := by decide +kernel
theorem dX6_countThings_17 : decode cX6_countThings 17 = .ok (.iload_n 2, 1) := by decide +kernel
theorem dX6_countThings_18 : decode cX6_countThings 18 = .ok (.iaload, 1) := by decide +kernel
theorem dX6_countThings_19 : decode cX6_countThings 19 = .ok (.iload_n 2, 1) := by decide +kernel
theorem dX6_countThings_20 : decode cX6_countThings 20 = .ok (.if_icmp .ne 7, 3) := by decide +kernel
theorem dX6_countThings_23 : decode cX6_countThings 23 = .ok (.iconst 1, 1) := by decide +kernel
theorem dX6_countThings_24 : decode cX6_countThings 24 = .ok (.goto 4, 3) := by decide +kernel
theorem dX6_countThings_27 : decode cX6_countThings 27 = .ok (.iconst 0, 1) := by decide +kernel
theorem dX6_countThings_28 : decode cX6_countThings 28 = .ok (.iadd, 1) := by decide +kernel
theorem dX6_countThings_29 : decode cX6_countThings 29 = .ok (.istore_n 1, 1) := by decide +kernel
theorem dX6_countThings_30 : decode cX6_countThings 30 = .ok (.iinc 2 1, 3) := by decide +kernel
theorem dX6_countThings_33 : decode cX6_countThings 33 = .ok (.goto (-29), 3) := by decide +kernel
theorem dX6_countThings_36 : decode cX6_countThings 36 = .ok (.iload_n 1, 1) := by decide +kernel
theorem dX6_countThings_37 : decode cX6_countThings 37 = .ok (.ireturn, 1) := by decide +kernel
set_option maxRecDepth 20000 in
theorem ggX6_things_X6_isDay : GoodIn wsX6_things wsX6_isDay := goodIn_r _ [4, 5, 6, 3, 7] (by decide +kernel) (by decide +kernel)
set_option maxRecDepth 20000 in
theorem gX6_things_X6_isDay : GoodIn wsX6_things (va_wsS RX6 91 yX6_isDay wsX6_isDay) := goodIn_app (goodIn_of _ (by decide +kernel)) ggX6_things_X6_isDay
set_option maxRecDepth 20000 in
theorem ggX6_things_X6_refused : GoodIn wsX6_things wsX6_refused := goodIn_r _ [11, 12, 45, 46, 47, 48, 49, 50, 51, 52, 53, 54, 55, 56, 57, 58, 59, 60, 61, 62, 63, 64, 65, 66, 67] (by decide +kernel) (by decide +kernel)
set_option maxRecDepth 20000 in
theorem gX6_things_X6_refused : GoodIn wsX6_things (wsV RX6 80 RX6 yX6_refused wsX6_refused) := goodIn_app (goodIn_of _ (by decide +kernel)) ggX6_things_X6_refused
set_option maxRecDepth 20000 in
theorem ggX6_things_X6_lay : GoodIn wsX6_things wsX6_lay := goodIn_r _ [16, 17, 18, 19, 20, 21, 3, 22, 23, 24, 25, 26, 27, 28, 29, 30, 31, 32, 33, 34, 35, 36, 37, 38, 39, 40, 45, 46, 47, 48, 49, 50, 51, 52, 53, 54, 55, 56, 57, 58, 59, 60, 61, 62, 63, 64, 65, 66, 67] (by decide +kernel) (by decide +kernel)
set_option maxRecDepth 20000 in
theorem gX6_things_X6_lay : GoodIn wsX6_things (wsV RX6 108 RX6 yX6_lay wsX6_lay) := goodIn_app (goodIn_of _ (by decide +kernel)) ggX6_things_X6_lay
set_option maxRecDepth 20000 in
theorem ggX6_things_X6_countThings : GoodIn wsX6_things wsX6_countThings := goodIn_r _ [44, 17, 18, 45, 46, 47, 48, 49, 50, 51, 52, 53, 54, 55, 56, 57, 58, 59, 60, 61, 62, 63, 64, 65, 66, 67] (by decide +kernel) (by decide +kernel)
set_option maxRecDepth 20000 in
theorem gX6_things_X6_countThings : GoodIn wsX6_things (wsV RX6 112 RX6 yX6_countThings wsX6_countThings) := goodIn_app (goodIn_of _ (by decide +kernel)) ggX6_things_X6_countThings
theorem dX6_things_0 : decode cX6_things 0 = .ok (.aload_n 0, 1) := by decide +kernel
theorem dX6_things_1 : decode cX6_things 1 = .ok (.iload_n 1, 1) := by decide +kernel
theorem dX6_things_2 : decode cX6_things 2 = .ok (.invokestatic 91, 3) := by decide +kernel
theorem dX6_things_5 : decode cX6_things 5 = .ok (.ifCond .eq 7, 3) := by decide +kernel
theorem dX6_things_8 : decode cX6_things 8 = .ok (.iconst 0, 1) := by decide +kernel
theorem dX6_things_9 : decode cX6_things 9 = .ok (.goto 4, 3) := by decide +kernel
theorem dX6_things_12 : decode cX6_things 12 = .ok (.iconst 1, 1) := by decide +kernel
theorem dX6_things_13 : decode cX6_things 13 = .ok (.invokevirtual 80, 3) := by decide +kernel
theorem dX6_things_16 : decode cX6_things 16 = .ok (.ifCond .eq 5, 3) := by decide +kernel
theorem dX6_things_19 : decode cX6_things 19 = .ok (.iconst 0, 1) := by decide +kernel
theorem dX6_things_20 : decode cX6_things 20 = .ok (.ireturn, 1) := by decide +kernel
theorem dX6_things_21 : decode cX6_things 21 = .ok (.aload_n 0, 1) := by decide +kernel
theorem dX6_things_22 : decode cX6_things 22 = .ok (.iload_n 1, 1) := by decide +kernel
theorem dX6_things_23 : decode cX6_things 23 = .ok (.invokevirtual 108, 3) := by decide +kernel
theorem dX6_things_26 : decode cX6_things 26 = .ok (.aload_n 0, 1) := by decide +kernel
theorem dX6_things_27 : decode cX6_things 27 = .ok (.invokevirtual 112, 3) := by decide +kernel
theorem dX6_things_30 : decode cX6_things 30 = .ok (.ireturn, 1) := by decide +kernel
set_option maxRecDepth 20000 in
theorem ggX6_looked_X6_isFind : GoodIn wsX6_looked wsX6_isFind := goodIn_r _ [6, 7, 8, 9, 5, 10, 40, 41, 42, 43, 44, 45, 46, 47, 48, 49, 50, 51, 52, 53, 54, 55, 56, 57, 58, 59, 60, 61, 62] (by decide +kernel) (by decide +kernel)
set_option maxRecDepth 20000 in
theorem gX6_looked_X6_isFind : GoodIn wsX6_looked (wsV RX6 88 RX6 yX6_isFind wsX6_isFind) := goodIn_app (goodIn_of _ (by decide +kernel)) ggX6_looked_X6_isFind
set_option maxRecDepth 20000 in
theorem ggX6_looked_X6_isDay : GoodIn wsX6_looked wsX6_isDay := goodIn_r _ [13, 8, 9, 5, 10] (by decide +kernel) (by decide +kernel)
set_option maxRecDepth 20000 in
theorem gX6_looked_X6_isDay : GoodIn wsX6_looked (va_wsS RX6 91 yX6_isDay wsX6_isDay) := goodIn_app (goodIn_of _ (by decide +kernel)) ggX6_looked_X6_isDay
set_option maxRecDepth 20000 in
theorem ggX6_looked_X6_lay : GoodIn wsX6_looked wsX6_lay := goodIn_r _ [17, 7, 1, 18, 19, 20, 5, 21, 22, 23, 24, 25, 26, 27, 28, 29, 30, 31, 32, 33, 34, 35, 36, 37, 38, 39, 40, 41, 42, 43, 44, 45, 46, 47, 48, 49, 50, 51, 52, 53, 54, 55, 56, 57, 58, 59, 60, 61, 62] (by decide +kernel) (by decide +kernel)
set_option maxRecDepth 20000 in
theorem gX6_looked_X6_lay : GoodIn wsX6_looked (wsV RX6 108 RX6 yX6_lay wsX6_lay) := goodIn_app (goodIn_of _ (by decide +kernel)) ggX6_looked_X6_lay
theorem dX6_looked_0 : decode cX6_looked 0 = .ok (.aload_n 0, 1) := by decide +kernel
theorem dX6_looked_1 : decode cX6_looked 1 = .ok (.iload_n 1, 1) := by decide +kernel
theorem dX6_looked_2 : decode cX6_looked 2 = .ok (.invokevirtual 88, 3) := by decide +kernel
theorem dX6_looked_5 : decode cX6_looked 5 = .ok (.ifCond .eq 14, 3) := by decide +kernel
theorem dX6_looked_8 : decode cX6_looked 8 = .ok (.iload_n 3, 1) := by decide +kernel
theorem dX6_looked_9 : decode cX6_looked 9 = .ok (.ifCond .eq 10, 3) := by decide +kernel
theorem dX6_looked_12 : decode cX6_looked 12 = .ok (.iload_n 2, 1) := by decide +kernel
theorem dX6_looked_13 : decode cX6_looked 13 = .ok (.invokestatic 91, 3) := by decide +kernel
theorem dX6_looked_16 : decode cX6_looked 16 = .ok (.ifCond .ne 17, 3) := by decide +kernel
theorem dX6_looked_19 : decode cX6_looked 19 = .ok (.aload_n 0, 1) := by decide +kernel
theorem dX6_looked_20 : decode cX6_looked 20 = .ok (.iload_n 1, 1) := by decide +kernel
theorem dX6_looked_21 : decode cX6_looked 21 = .ok (.invokevirtual 88, 3) := by decide +kernel
theorem dX6_looked_24 : decode cX6_looked 24 = .ok (.ifCond .eq 7, 3) := by decide +kernel
theorem dX6_looked_27 : decode cX6_looked 27 = .ok (.iconst 2, 1) := by decide +kernel
theorem dX6_looked_28 : decode cX6_looked 28 = .ok (.goto 4, 3) := by decide +kernel
theorem dX6_looked_31 : decode cX6_looked 31 = .ok (.iconst 1, 1) := by decide +kernel
theorem dX6_looked_32 : decode cX6_looked 32 = .ok (.ireturn, 1) := by decide +kernel
theorem dX6_looked_33 : decode cX6_looked 33 = .ok (.aload_n 0, 1) := by decide +kernel
theorem dX6_looked_34 : decode cX6_looked 34 = .ok (.iload_n 2, 1) := by decide +kernel
theorem dX6_looked_35 : decode cX6_looked 35 = .ok (.invokevirtual 108, 3) := by decide +kernel
theorem dX6_looked_38 : decode cX6_looked 38 = .ok (.aload_n 0, 1) := by decide +kernel
theorem dX6_looked_39 : decode cX6_looked 39 = .ok (.getfield 57, 3) := by decide +kernel
theorem dX6_looked_42 : decode cX6_looked 42 = .ok (.iload_n 1, 1) := by decide +kernel
theorem dX6_looked_43 : decode cX6_looked 43 = .ok (.iaload, 1) := by decide +kernel
theorem dX6_looked_44 : decode cX6_looked 44 = .ok (.ifCond .ge 7, 3) := by decide +kernel
theorem dX6_looked_47 : decode cX6_looked 47 = .ok (.iconst 3, 1) := by decide +kernel
theorem dX6_looked_48 : decode cX6_looked 48 = .ok (.goto 4, 3) := by decide +kernel
theorem dX6_looked_51 : decode cX6_looked 51 = .ok (.iconst 0, 1) := by decide +kernel
theorem dX6_looked_52 : decode cX6_looked 52 = .ok (.ireturn, 1) := by decide +kernel
set_option maxRecDepth 20000 in
theorem ggX6_thingOf_X6_looked : GoodIn wsX6_thingOf wsX6_looked := goodIn_r _ [6, 1, 7, 8, 9, 5, 10, 11, 12, 13, 14, 15, 16, 17, 18, 19, 20, 21, 22, 23, 24, 25, 26, 27, 28, 29, 30, 31, 32, 33, 34, 35, 36, 37, 38, 39, 40, 41, 42, 43, 49, 50, 51, 52, 53, 54, 55, 56, 57, 58, 59, 60, 61, 62, 63, 64, 65, 66, 67, 68, 69, 70, 71] (by decide +kernel) (by decide +kernel)
set_option maxRecDepth 20000 in
theorem gX6_thingOf_X6_looked : GoodIn wsX6_thingOf (wsV RX6 116 RX6 yX6_looked wsX6_looked) := goodIn_app (goodIn_of _ (by decide +kernel)) ggX6_thingOf_X6_looked
set_option maxRecDepth 20000 in
theorem ggX6_thingOf_X6_refused : GoodIn wsX6_thingOf wsX6_refused := goodIn_r _ [47, 48, 49, 50, 51, 52, 53, 54, 55, 56, 57, 58, 59, 60, 61, 62, 63, 64, 65, 66, 67, 68, 69, 70, 71] (by decide +kernel) (by decide +kernel)
set_option maxRecDepth 20000 in
theorem gX6_thingOf_X6_refused : GoodIn wsX6_thingOf (wsV RX6 80 RX6 yX6_refused wsX6_refused) := goodIn_app (goodIn_of _ (by decide +kernel)) ggX6_thingOf_X6_refused
theorem dX6_thingOf_0 : decode cX6_thingOf 0 = .ok (.aload_n 0, 1) := by decide +kernel
theorem dX6_thingOf_1 : decode cX6_thingOf 1 = .ok (.aload_n 0, 1) := by decide +kernel
theorem dX6_thingOf_2 : decode cX6_thingOf 2 = .ok (.iload_n 1, 1) := by decide +kernel
theorem dX6_thingOf_3 : decode cX6_thingOf 3 = .ok (.iload_n 2, 1) := by decide +kernel
theorem dX6_thingOf_4 : decode cX6_thingOf 4 = .ok (.iconst 1, 1) := by decide +kernel
theorem dX6_thingOf_5 : decode cX6_thingOf 5 = .ok (.invokevirtual 116, 3) := by decide +kernel
theorem dX6_thingOf_8 : decode cX6_thingOf 8 = .ok (.invokevirtual 80, 3) := by decide +kernel
theorem dX6_thingOf_11 : decode cX6_thingOf 11 = .ok (.ifCond .eq 7, 3) := by decide +kernel
theorem dX6_thingOf_14 : decode cX6_thingOf 14 = .ok (.iconst 0, 1) := by decide +kernel
theorem dX6_thingOf_15 : decode cX6_thingOf 15 = .ok (.goto 9, 3) := by decide +kernel
theorem dX6_thingOf_18 : decode cX6_thingOf 18 = .ok (.aload_n 0, 1) := by decide +kernel
theorem dX6_thingOf_19 : decode cX6_thingOf 19 = .ok (.getfield 57, 3) := by decide +kernel
theorem dX6_thingOf_22 : decode cX6_thingOf 22 = .ok (.iload_n 1, 1) := by decide +kernel
theorem dX6_thingOf_23 : decode cX6_thingOf 23 = .ok (.iaload, 1) := by decide +kernel
theorem dX6_thingOf_24 : decode cX6_thingOf 24 = .ok (.ireturn, 1) := by decide +kernel
set_option maxRecDepth 20000 in
theorem ggX6_isAhead_X6_rankOf : GoodIn wsX6_isAhead wsX6_rankOf := goodIn_r _ [7, 8, 9, 10, 11, 12, 13, 14, 15, 16, 17, 18, 19, 20, 21, 22, 23, 24, 25, 26, 27, 28, 29, 30, 31] (by decide +kernel) (by decide +kernel)
set_option maxRecDepth 20000 in
theorem gX6_isAhead_X6_rankOf : GoodIn wsX6_isAhead (wsV RX6 84 RX6 yX6_rankOf wsX6_rankOf) := goodIn_app (goodIn_of _ (by decide +kernel)) ggX6_isAhead_X6_rankOf
theorem dX6_isAhead_0 : decode cX6_isAhead 0 = .ok (.aload_n 0, 1) := by decide +kernel
theorem dX6_isAhead_1 : decode cX6_isAhead 1 = .ok (.aload_n 0, 1) := by decide +kernel
theorem dX6_isAhead_2 : decode cX6_isAhead 2 = .ok (.getfield 16, 3) := by decide +kernel
theorem dX6_isAhead_5 : decode cX6_isAhead 5 = .ok (.iload_n 1, 1) := by decide +kernel
theorem dX6_isAhead_6 : decode cX6_isAhead 6 = .ok (.iaload, 1) := by decide +kernel
theorem dX6_isAhead_7 : decode cX6_isAhead 7 = .ok (.invokevirtual 84, 3) := by decide +kernel
theorem dX6_isAhead_10 : decode cX6_isAhead 10 = .ok (.istore_n 3, 1) := by decide +kernel
theorem dX6_isAhead_11 : decode cX6_isAhead 11 = .ok (.aload_n 0, 1) := by decide +kernel
theorem dX6_isAhead_12 : decode cX6_isAhead 12 = .ok (.aload_n 0, 1) := by decide +kernel
theorem dX6_isAhead_13 : decode cX6_isAhead 13 = .ok (.getfield 16, 3) := by decide +kernel
theorem dX6_isAhead_16 : decode cX6_isAhead 16 = .ok (.iload_n 2, 1) := by decide +kernel
theorem dX6_isAhead_17 : decode cX6_isAhead 17 = .ok (.iaload, 1) := by decide +kernel
theorem dX6_isAhead_18 : decode cX6_isAhead 18 = .ok (.invokevirtual 84, 3) := by decide +kernel
theorem dX6_isAhead_21 : decode cX6_isAhead 21 = .ok (.istore 4, 2) := by decide +kernel
theorem dX6_isAhead_23 : decode cX6_isAhead 23 = .ok (.iload_n 3, 1) := by decide +kernel
theorem dX6_isAhead_24 : decode cX6_isAhead 24 = .ok (.iload 4, 2) := by decide +kernel
theorem dX6_isAhead_26 : decode cX6_isAhead 26 = .ok (.if_icmp .lt 44, 3) := by decide +kernel
theorem dX6_isAhead_29 : decode cX6_isAhead 29 = .ok (.iload_n 3, 1) := by decide +kernel
theorem dX6_isAhead_30 : decode cX6_isAhead 30 = .ok (.iload 4, 2) := by decide +kernel
theorem dX6_isAhead_32 : decode cX6_isAhead 32 = .ok (.if_icmp .ne 42, 3) := by decide +kernel
theorem dX6_isAhead_35 : decode cX6_isAhead 35 = .ok (.aload_n 0, 1) := by decide +kernel
theorem dX6_isAhead_36 : decode cX6_isAhead 36 = .ok (.getfield 19, 3) := by decide +kernel
theorem dX6_isAhead_39 : decode cX6_isAhead 39 = .ok (.iload_n 1, 1) := by decide +kernel
theorem dX6_isAhead_40 : decode cX6_isAhead 40 = .ok (.iaload, 1) := by decide +kernel
theorem dX6_isAhead_41 : decode cX6_isAhead 41 = .ok (.aload_n 0, 1) := by decide +kernel
theorem dX6_isAhead_42 : decode cX6_isAhead 42 = .ok (.getfield 19, 3) := by decide +kernel
theorem dX6_isAhead_45 : decode cX6_isAhead 45 = .ok (.iload_n 2, 1) := by decide +kernel
theorem dX6_isAhead_46 : decode cX6_isAhead 46 = .ok (.iaload, 1) := by decide +kernel
theorem dX6_isAhead_47 : decode cX6_isAhead 47 = .ok (.if_icmp .gt 23, 3) := by decide +kernel
theorem dX6_isAhead_50 : decode cX6_isAhead 50 = .ok (.aload_n 0, 1) := by decide +kernel
theorem dX6_isAhead_51 : decode cX6_isAhead 51 = .ok (.getfield 19, 3) := by decide +kernel
theorem dX6_isAhead_54 : decode cX6_isAhead 54 = .ok (.iload_n 1, 1) := by decide +kernel
theorem dX6_isAhead_55 : decode cX6_isAhead 55 = .ok (.iaload, 1) := by decide +kernel
theorem dX6_isAhead_56 : decode cX6_isAhead 56 = .ok (.aload_n 0, 1) := by decide +kernel
theorem dX6_isAhead_57 : decode cX6_isAhead 57 = .ok (.getfield 19, 3) := by decide +kernel
theorem dX6_isAhead_60 : decode cX6_isAhead 60 = .ok (.iload_n 2, 1) := by decide +kernel
theorem dX6_isAhead_61 : decode cX6_isAhead 61 = .ok (.iaload, 1) := by decide +kernel
theorem dX6_isAhead_62 : decode cX6_isAhead 62 = .ok (.if_icmp .ne 12, 3) := by decide +kernel
theorem dX6_isAhead_65 : decode cX6_isAhead 65 = .ok (.iload_n 1, 1) := by decide +kernel
theorem dX6_isAhead_66 : decode cX6_isAhead 66 = .ok (.iload_n 2, 1) := by decide +kernel
theorem dX6_isAhead_67 : decode cX6_isAhead 67 = .ok (.if_icmp .le 7, 3) := by decide +kernel
theorem dX6_isAhead_70 : decode cX6_isAhead 70 = .ok (.iconst 1, 1) := by decide +kernel
theorem dX6_isAhead_71 : decode cX6_isAhead 71 = .ok (.goto 4, 3) := by decide +kernel
theorem dX6_isAhead_74 : decode cX6_isAhead 74 = .ok (.iconst 0, 1) := by decide +kernel
theorem dX6_isAhead_75 : decode cX6_isAhead 75 = .ok (.ireturn, 1) := by decide +kernel
set_option maxRecDepth 20000 in
theorem ggX6_valueOf_X6_isAhead : GoodIn wsX6_valueOf wsX6_isAhead := goodIn_r _ [8, 9, 10, 11, 12, 13, 7, 14, 15, 16, 17, 18, 19, 20, 21, 22, 23, 24, 25, 26, 27, 28, 29, 30, 31, 32, 33, 34, 35, 36, 37, 38] (by decide +kernel) (by decide +kernel)
set_option maxRecDepth 20000 in
theorem gX6_valueOf_X6_isAhead : GoodIn wsX6_valueOf (wsV RX6 120 RX6 yX6_isAhead wsX6_isAhead) := goodIn_app (goodIn_of _ (by decide +kernel)) ggX6_valueOf_X6_isAhead
theorem dX6_valueOf_0 : decode cX6_valueOf 0 = .ok (.iconst (-1), 1) := by decide +kernel
theorem dX6_valueOf_1 : decode cX6_valueOf 1 = .ok (.istore_n 3, 1) := by decide +kernel
theorem dX6_valueOf_2 : decode cX6_valueOf 2 = .ok (.iconst 0, 1) := by decide +kernel
theorem dX6_valueOf_3 : decode cX6_valueOf 3 = .ok (.istore 4, 2) := by decide +kernel
theorem dX6_valueOf_5 : decode cX6_valueOf 5 = .ok (.iload 4, 2) := by decide +kernel
theorem dX6_valueOf_7 : decode cX6_valueOf 7 = .ok (.aload_n 0, 1) := by decide +kernel
theorem dX6_valueOf_8 : decode cX6_valueOf 8 = .ok (.getfield 70, 3) := by decide +kernel
theorem dX6_valueOf_11 : decode cX6_valueOf 11 = .ok (.if_icmp .ge 67, 3) := by decide +kernel
theorem dX6_valueOf_14 : decode cX6_valueOf 14 = .ok (.aload_n 0, 1) := by decide +kernel
theorem dX6_valueOf_15 : decode cX6_valueOf 15 = .ok (.getfield 57, 3) := by decide +kernel
theorem dX6_valueOf_18 : decode cX6_valueOf 18 = .ok (.iload 4, 2) := by decide +kernel
theorem dX6_valueOf_20 : decode cX6_valueOf 20 = .ok (.iaload, 1) := by decide +kernel
theorem dX6_valueOf_21 : decode cX6_valueOf 21 = .ok (.iload_n 1, 1) := by decide +kernel
theorem dX6_valueOf_22 : decode cX6_valueOf 22 = .ok (.if_icmp .ne 21, 3) := by decide +kernel
theorem dX6_valueOf_25 : decode cX6_valueOf 25 = .ok (.aload_n 0, 1) := by decide +kernel
theorem dX6_valueOf_26 : decode cX6_valueOf 26 = .ok (.getfield 25, 3) := by decide +kernel
theorem dX6_valueOf_29 : decode cX6_valueOf 29 = .ok (.iconst 2, 1) := by decide +kernel
theorem dX6_valueOf_30 : decode cX6_valueOf 30 = .ok (.iload 4, 2) := by decide +kernel
theorem dX6_valueOf_32 : decode cX6_valueOf 32 = .ok (.imul, 1) := by decide +kernel
theorem dX6_valueOf_33 : decode cX6_valueOf 33 = .ok (.iload_n 2, 1) := by decide +kernel
theorem dX6_valueOf_34 : decode cX6_valueOf 34 = .ok (.iadd, 1) := by decide +kernel
theorem dX6_valueOf_35 : decode cX6_valueOf 35 = .ok (.iaload, 1) := by decide +kernel
theorem dX6_valueOf_36 : decode cX6_valueOf 36 = .ok (.ifCond .lt 7, 3) := by decide +kernel
theorem dX6_valueOf_39 : decode cX6_valueOf 39 = .ok (.iconst 1, 1) := by decide +kernel
theorem dX6_valueOf_40 : decode cX6_valueOf 40 = .ok (.goto 4, 3) := by decide +kernel
theorem dX6_valueOf_43 : decode cX6_valueOf 43 = .ok (.iconst 0, 1) := by decide +kernel
theorem dX6_valueOf_44 : decode cX6_valueOf 44 = .ok (.istore 5, 2) := by decide +kernel
theorem dX6_valueOf_46 : decode cX6_valueOf 46 = .ok (.iload 5, 2) := by decide +kernel
theorem dX6_valueOf_48 : decode cX6_valueOf 48 = .ok (.ifCond .eq 22, 3) := by decide +kernel
theorem dX6_valueOf_51 : decode cX6_valueOf 51 = .ok (.iload_n 3, 1) := by decide +kernel
theorem dX6_valueOf_52 : decode cX6_valueOf 52 = .ok (.ifCond .lt 13, 3) := by decide +kernel
theorem dX6_valueOf_55 : decode cX6_valueOf 55 = .ok (.aload_n 0, 1) := by decide +kernel
theorem dX6_valueOf_56 : decode cX6_valueOf 56 = .ok (.iload 4, 2) := by decide +kernel
theorem dX6_valueOf_58 : decode cX6_valueOf 58 = .ok (.iload_n 3, 1) := by decide +kernel
theorem dX6_valueOf_59 : decode cX6_valueOf 59 = .ok (.invokevirtual 120, 3) := by decide +kernel
theorem dX6_valueOf_62 : decode cX6_valueOf 62 = .ok (.ifCond .eq 8, 3) := by decide +kernel
theorem dX6_valueOf_65 : decode cX6_valueOf 65 = .ok (.iload 4, 2) := by decide +kernel
theorem dX6_valueOf_67 : decode cX6_valueOf 67 = .ok (.goto 4, 3) := by decide +kernel
theorem dX6_valueOf_70 : decode cX6_valueOf 70 = .ok (.iload_n 3, 1) := by decide +kernel
theorem dX6_valueOf_71 : decode cX6_valueOf 71 = .ok (.istore_n 3, 1) := by decide +kernel
theorem dX6_valueOf_72 : decode cX6_valueOf 72 = .ok (.iinc 4 1, 3) := by decide +kernel
theorem dX6_valueOf_75 : decode cX6_valueOf 75 = .ok (.goto (-70), 3) := by decide +kernel
theorem dX6_valueOf_78 : decode cX6_valueOf 78 = .ok (.iload_n 3, 1) := by decide +kernel
theorem dX6_valueOf_79 : decode cX6_valueOf 79 = .ok (.ifCond .ge 7, 3) := by decide +kernel
theorem dX6_valueOf_82 : decode cX6_valueOf 82 = .ok (.iconst (-1), 1) := by decide +kernel
theorem dX6_valueOf_83 : decode cX6_valueOf 83 = .ok (.goto 13, 3) := by decide +kernel
theorem dX6_valueOf_86 : decode cX6_valueOf 86 = .ok (.aload_n 0, 1) := by decide +kernel
theorem dX6_valueOf_87 : decode cX6_valueOf 87 = .ok (.getfield 25, 3) := by decide +kernel
theorem dX6_valueOf_90 : decode cX6_valueOf 90 = .ok (.iconst 2, 1) := by decide +kernel
theorem dX6_valueOf_91 : decode cX6_valueOf 91 = .ok (.iload_n 3, 1) := by decide +kernel
theorem dX6_valueOf_92 : decode cX6_valueOf 92 = .ok (.imul, 1) := by decide +kernel
theorem dX6_valueOf_93 : decode cX6_valueOf 93 = .ok (.iload_n 2, 1) := by decide +kernel
theorem dX6_valueOf_94 : decode cX6_valueOf 94 = .ok (.iadd, 1) := by decide +kernel
theorem dX6_valueOf_95 : decode cX6_valueOf 95 = .ok (.iaload, 1) := by decide +kernel
theorem dX6_valueOf_96 : decode cX6_valueOf 96 = .ok (.ireturn, 1) := by decide +kernel
set_option maxRecDepth 20000 in
theorem ggX6_value_X6_in : GoodIn wsX6_value wsX6_in := goodIn_r _ [5] (by decide +kernel) (by decide +kernel)
set_option maxRecDepth 20000 in
theorem gX6_value_X6_in : GoodIn wsX6_value (va_wsS RX6 73 yX6_in wsX6_in) := goodIn_app (goodIn_of _ (by decide +kernel)) ggX6_value_X6_in
set_option maxRecDepth 20000 in
theorem ggX6_value_X6_looked : GoodIn wsX6_value wsX6_looked := goodIn_r _ [9, 1, 10, 11, 12, 4, 13, 14, 2, 3, 5, 15, 16, 17, 18, 19, 20, 21, 22, 23, 24, 25, 26, 27, 28, 29, 30, 31, 32, 33, 34, 35, 36, 37, 38, 39, 40, 41, 42, 43, 63, 64, 65, 66, 67, 68, 69, 70, 71, 72, 73, 74, 75, 76, 77, 78, 79, 80, 81, 82, 83, 84, 85] (by decide +kernel) (by decide +kernel)
set_option maxRecDepth 20000 in
theorem gX6_value_X6_looked : GoodIn wsX6_value (wsV RX6 116 RX6 yX6_looked wsX6_looked) := goodIn_app (goodIn_of _ (by decide +kernel)) ggX6_value_X6_looked
set_option maxRecDepth 20000 in
theorem ggX6_value_X6_refused : GoodIn wsX6_value wsX6_refused := goodIn_r _ [47, 48, 63, 64, 65, 66, 67, 68, 69, 70, 71, 72, 73, 74, 75, 76, 77, 78, 79, 80, 81, 82, 83, 84, 85] (by decide +kernel) (by decide +kernel)
set_option maxRecDepth 20000 in
theorem gX6_value_X6_refused : GoodIn wsX6_value (wsV RX6 80 RX6 yX6_refused wsX6_refused) := goodIn_app (goodIn_of _ (by decide +kernel)) ggX6_value_X6_refused
set_option maxRecDepth 20000 in
theorem ggX6_value_X6_valueOf : GoodIn wsX6_value wsX6_valueOf := goodIn_r _ [52, 14, 1, 53, 54, 55, 56, 4, 57, 29, 27, 58, 59, 60, 61, 62, 63, 64, 65, 66, 67, 68, 69, 70, 71, 72, 73, 74, 75, 76, 77, 78, 79, 80, 81, 82, 83, 84, 85] (by decide +kernel) (by decide +kernel)
set_option maxRecDepth 20000 in
theorem gX6_value_X6_valueOf : GoodIn wsX6_value (wsV RX6 123 RX6 yX6_valueOf wsX6_valueOf) := goodIn_app (goodIn_of _ (by decide +kernel)) ggX6_value_X6_valueOf
theorem dX6_value_0 : decode cX6_value 0 = .ok (.aload_n 0, 1) := by decide +kernel
theorem dX6_value_1 : decode cX6_value 1 = .ok (.aload_n 0, 1) := by decide +kernel
theorem dX6_value_2 : decode cX6_value 2 = .ok (.iload_n 1, 1) := by decide +kernel
theorem dX6_value_3 : decode cX6_value 3 = .ok (.iload_n 3, 1) := by decide +kernel
theorem dX6_value_4 : decode cX6_value 4 = .ok (.iload_n 2, 1) := by decide +kernel
theorem dX6_value_5 : decode cX6_value 5 = .ok (.iconst 0, 1) := by decide +kernel
theorem dX6_value_6 : decode cX6_value 6 = .ok (.iconst 1, 1) := by decide +kernel
theorem dX6_value_7 : decode cX6_value 7 = .ok (.invokestatic 73, 3) := by decide +kernel
theorem dX6_value_10 : decode cX6_value 10 = .ok (.invokevirtual 116, 3) := by decide +kernel
theorem dX6_value_13 : decode cX6_value 13 = .ok (.invokevirtual 80, 3) := by decide +kernel
theorem dX6_value_16 : decode cX6_value 16 = .ok (.ifCond .eq 7, 3) := by decide +kernel
theorem dX6_value_19 : decode cX6_value 19 = .ok (.iconst 0, 1) := by decide +kernel
theorem dX6_value_20 : decode cX6_value 20 = .ok (.goto 14, 3) := by decide +kernel
theorem dX6_value_23 : decode cX6_value 23 = .ok (.aload_n 0, 1) := by decide +kernel
theorem dX6_value_24 : decode cX6_value 24 = .ok (.aload_n 0, 1) := by decide +kernel
theorem dX6_value_25 : decode cX6_value 25 = .ok (.getfield 57, 3) := by decide +kernel
theorem dX6_value_28 : decode cX6_value 28 = .ok (.iload_n 1, 1) := by decide +kernel
theorem dX6_value_29 : decode cX6_value 29 = .ok (.iaload, 1) := by decide +kernel
theorem dX6_value_30 : decode cX6_value 30 = .ok (.iload_n 2, 1) := by decide +kernel
theorem dX6_value_31 : decode cX6_value 31 = .ok (.invokevirtual 123, 3) := by decide +kernel
theorem dX6_value_34 : decode cX6_value 34 = .ok (.ireturn, 1) := by decide +kernel
set_option maxRecDepth 20000 in
theorem ggX6_disputed_X6_in : GoodIn wsX6_disputed wsX6_in := goodIn_r _ [7] (by decide +kernel) (by decide +kernel)
set_option maxRecDepth 20000 in
theorem gX6_disputed_X6_in : GoodIn wsX6_disputed (va_wsS RX6 73 yX6_in wsX6_in) := goodIn_app (goodIn_of _ (by decide +kernel)) ggX6_disputed_X6_in
set_option maxRecDepth 20000 in
theorem ggX6_disputed_X6_isDay : GoodIn wsX6_disputed wsX6_isDay := goodIn_r _ [10, 4, 5, 6, 7] (by decide +kernel) (by decide +kernel)
set_option maxRecDepth 20000 in
theorem gX6_disputed_X6_isDay : GoodIn wsX6_disputed (va_wsS RX6 91 yX6_isDay wsX6_isDay) := goodIn_app (goodIn_of _ (by decide +kernel)) ggX6_disputed_X6_isDay
set_option maxRecDepth 20000 in
theorem ggX6_disputed_X6_refused : GoodIn wsX6_disputed wsX6_refused := goodIn_r _ [14, 15, 55, 56, 57, 58, 59, 60, 61, 62, 63, 64, 65, 66, 67, 68, 69, 70, 71, 72, 73, 74, 75, 76, 77] (by decide +kernel) (by decide +kernel)
set_option maxRecDepth 20000 in
theorem gX6_disputed_X6_refused : GoodIn wsX6_disputed (wsV RX6 80 RX6 yX6_refused wsX6_refused) := goodIn_app (goodIn_of _ (by decide +kernel)) ggX6_disputed_X6_refused
set_option maxRecDepth 20000 in
theorem ggX6_disputed_X6_lay : GoodIn wsX6_disputed wsX6_lay := goodIn_r _ [19, 1, 2, 20, 21, 22, 6, 23, 24, 25, 26, 27, 28, 29, 30, 31, 32, 33, 34, 35, 36, 37, 38, 39, 40, 41, 55, 56, 57, 58, 59, 60, 61, 62, 63, 64, 65, 66, 67, 68, 69, 70, 71, 72, 73, 74, 75, 76, 77] (by decide +kernel) (by decide +kernel)
set_option maxRecDepth 20000 in
theorem gX6_disputed_X6_lay : GoodIn wsX6_disputed (wsV RX6 108 RX6 yX6_lay wsX6_lay) := goodIn_app (goodIn_of _ (by decide +kernel)) ggX6_disputed_X6_lay
set_option maxRecDepth 20000 in
theorem ggX6_disputed_X6_valueOf : GoodIn wsX6_disputed wsX6_valueOf := goodIn_r _ [45, 1, 2, 3, 46, 47, 48, 6, 49, 27, 25, 50, 51, 52, 53, 54, 55, 56, 57, 58, 59, 60, 61, 62, 63, 64, 65, 66, 67, 68, 69, 70, 71, 72, 73, 74, 75, 76, 77] (by decide +kernel) (by decide +kernel)
set_option maxRecDepth 20000 in
theorem gX6_disputed_X6_valueOf : GoodIn wsX6_disputed (wsV RX6 123 RX6 yX6_valueOf wsX6_valueOf) := goodIn_app (goodIn_of _ (by decide +kernel)) ggX6_disputed_X6_valueOf
theorem dX6_disputed_0 : decode cX6_disputed 0 = .ok (.aload_n 0, 1) := by decide +kernel
theorem dX6_disputed_1 : decode cX6_disputed 1 = .ok (.iload_n 1, 1) := by decide +kernel
theorem dX6_disputed_2 : decode cX6_disputed 2 = .ok (.iconst 0, 1) := by decide +kernel
theorem dX6_disputed_3 : decode cX6_disputed 3 = .ok (.iconst 1, 1) := by decide +kernel
theorem dX6_disputed_4 : decode cX6_disputed 4 = .ok (.invokestatic 73, 3) := by decide +kernel
theorem dX6_disputed_7 : decode cX6_disputed 7 = .ok (.ifCond .eq 14, 3) := by decide +kernel
theorem dX6_disputed_10 : decode cX6_disputed 10 = .ok (.iload_n 2, 1) := by decide +kernel
theorem dX6_disputed_11 : decode cX6_disputed 11 = .ok (.invokestatic 91, 3) := by decide +kernel
theorem dX6_disputed_14 : decode cX6_disputed 14 = .ok (.ifCond .eq 7, 3) := by decide +kernel
theorem dX6_disputed_17 : decode cX6_disputed 17 = .ok (.iconst 0, 1) := by decide +kernel
theorem dX6_disputed_18 : decode cX6_disputed 18 = .ok (.goto 4, 3) := by decide +kernel
theorem dX6_disputed_21 : decode cX6_disputed 21 = .ok (.iconst 1, 1) := by decide +kernel
theorem dX6_disputed_22 : decode cX6_disputed 22 = .ok (.invokevirtual 80, 3) := by decide +kernel
theorem dX6_disputed_25 : decode cX6_disputed 25 = .ok (.ifCond .eq 5, 3) := by decide +kernel
theorem dX6_disputed_28 : decode cX6_disputed 28 = .ok (.iconst 0, 1) := by decide +kernel
theorem dX6_disputed_29 : decode cX6_disputed 29 = .ok (.ireturn, 1) := by decide +kernel
theorem dX6_disputed_30 : decode cX6_disputed 30 = .ok (.aload_n 0, 1) := by decide +kernel
theorem dX6_disputed_31 : decode cX6_disputed 31 = .ok (.iload_n 2, 1) := by decide +kernel
theorem dX6_disputed_32 : decode cX6_disputed 32 = .ok (.invokevirtual 108, 3) := by decide +kernel
theorem dX6_disputed_35 : decode cX6_disputed 35 = .ok (.iconst 0, 1) := by decide +kernel
theorem dX6_disputed_36 : decode cX6_disputed 36 = .ok (.istore_n 3, 1) := by decide +kernel
theorem dX6_disputed_37 : decode cX6_disputed 37 = .ok (.iconst 0, 1) := by decide +kernel
theorem dX6_disputed_38 : decode cX6_disputed 38 = .ok (.istore 4, 2) := by decide +kernel
theorem dX6_disputed_40 : decode cX6_disputed 40 = .ok (.iload 4, 2) := by decide +kernel
theorem dX6_disputed_42 : decode cX6_disputed 42 = .ok (.aload_n 0, 1) := by decide +kernel
theorem dX6_disputed_43 : decode cX6_disputed 43 = .ok (.getfield 70, 3) := by decide +kernel
theorem dX6_disputed_46 : decode cX6_disputed 46 = .ok (.if_icmp .ge 127, 3) := by decide +kernel
theorem dX6_disputed_49 : decode cX6_disputed 49 = .ok (.iconst 0, 1) := by decide +kernel
theorem dX6_disputed_50 : decode cX6_disputed 50 = .ok (.istore 5, 2) := by decide +kernel
theorem dX6_disputed_52 : decode cX6_disputed 52 = .ok (.aload_n 0, 1) := by decide +kernel
theorem dX6_disputed_53 : decode cX6_disputed 53 = .ok (.getfield 57, 3) := by decide +kernel
theorem dX6_disputed_56 : decode cX6_disputed 56 = .ok (.iload 4, 2) := by decide +kernel
theorem dX6_disputed_58 : decode cX6_disputed 58 = .ok (.iaload, 1) := by decide +kernel
theorem dX6_disputed_59 : decode cX6_disputed 59 = .ok (.iload 4, 2) := by decide +kernel
theorem dX6_disputed_61 : decode cX6_disputed 61 = .ok (.if_icmp .ne 13, 3) := by decide +kernel
theorem dX6_disputed_64 : decode cX6_disputed 64 = .ok (.aload_n 0, 1) := by decide +kernel
theorem dX6_disputed_65 : decode cX6_disputed 65 = .ok (.iload 4, 2) := by decide +kernel
theorem dX6_disputed_67 : decode cX6_disputed 67 = .ok (.iload_n 1, 1) := by decide +kernel
theorem dX6_disputed_68 : decode cX6_disputed 68 = .ok (.invokevirtual 123, 3) := by decide +kernel
theorem dX6_disputed_71 : decode cX6_disputed 71 = .ok (.goto 4, 3) := by decide +kernel
theorem dX6_disputed_74 : decode cX6_disputed 74 = .ok (.iconst (-1), 1) := by decide +kernel
theorem dX6_disputed_75 : decode cX6_disputed 75 = .ok (.istore 6, 2) := by decide +kernel
theorem dX6_disputed_77 : decode cX6_disputed 77 = .ok (.iconst 0, 1) := by decide +kernel
theorem dX6_disputed_78 : decode cX6_disputed 78 = .ok (.istore 7, 2) := by decide +kernel
theorem dX6_disputed_80 : decode cX6_disputed 80 = .ok (.iload 7, 2) := by decide +kernel
theorem dX6_disputed_82 : decode cX6_disputed 82 = .ok (.aload_n 0, 1) := by decide +kernel
theorem dX6_disputed_83 : decode cX6_disputed 83 = .ok (.getfield 70, 3) := by decide +kernel
theorem dX6_disputed_86 : decode cX6_disputed 86 = .ok (.if_icmp .ge 68, 3) := by decide +kernel
theorem dX6_disputed_89 : decode cX6_disputed 89 = .ok (.iload 6, 2) := by decide +kernel
theorem dX6_disputed_91 : decode cX6_disputed 91 = .ok (.ifCond .lt 63, 3) := by decide +kernel
theorem dX6_disputed_94 : decode cX6_disputed 94 = .ok (.iload 5, 2) := by decide +kernel
theorem dX6_disputed_96 : decode cX6_disputed 96 = .ok (.ifCond .ne 45, 3) := by decide +kernel
theorem dX6_disputed_99 : decode cX6_disputed 99 = .ok (.aload_n 0, 1) := by decide +kernel
theorem dX6_disputed_100 : decode cX6_disputed 100 = .ok (.getfield 57, 3) := by decide +kernel
theorem dX6_disputed_103 : decode cX6_disputed 103 = .ok (.iload 7, 2) := by decide +kernel
theorem dX6_disputed_105 : decode cX6_disputed 105 = .ok (.iaload, 1) := by decide +kernel
theorem dX6_disputed_106 : decode cX6_disputed 106 = .ok (.iload 4, 2) := by decide +kernel
theorem dX6_disputed_108 : decode cX6_disputed 108 = .ok (.if_icmp .ne 37, 3) := by decide +kernel
theorem dX6_disputed_111 : decode cX6_disputed 111 = .ok (.aload_n 0, 1) := by decide +kernel
theorem dX6_disputed_112 : decode cX6_disputed 112 = .ok (.getfield 25, 3) := by decide +kernel
theorem dX6_disputed_115 : decode cX6_disputed 115 = .ok (.iconst 2, 1) := by decide +kernel
theorem dX6_disputed_116 : decode cX6_disputed 116 = .ok (.iload 7, 2) := by decide +kernel
theorem dX6_disputed_118 : decode cX6_disputed 118 = .ok (.imul, 1) := by decide +kernel
theorem dX6_disputed_119 : decode cX6_disputed 119 = .ok (.iload_n 1, 1) := by decide +kernel
theorem dX6_disputed_120 : decode cX6_disputed 120 = .ok (.iadd, 1) := by decide +kernel
theorem dX6_disputed_121 : decode cX6_disputed 121 = .ok (.iaload, 1) := by decide +kernel
theorem dX6_disputed_122 : decode cX6_disputed 122 = .ok (.ifCond .lt 23, 3) := by decide +kernel
theorem dX6_disputed_125 : decode cX6_disputed 125 = .ok (.aload_n 0, 1) := by decide +kernel
theorem dX6_disputed_126 : decode cX6_disputed 126 = .ok (.getfield 25, 3) := by decide +kernel
theorem dX6_disputed_129 : decode cX6_disputed 129 = .ok (.iconst 2, 1) := by decide +kernel
theorem dX6_disputed_130 : decode cX6_disputed 130 = .ok (.iload 7, 2) := by decide +kernel
theorem dX6_disputed_132 : decode cX6_disputed 132 = .ok (.imul, 1) := by decide +kernel
theorem dX6_disputed_133 : decode cX6_disputed 133 = .ok (.iload_n 1, 1) := by decide +kernel
theorem dX6_disputed_134 : decode cX6_disputed 134 = .ok (.iadd, 1) := by decide +kernel
theorem dX6_disputed_135 : decode cX6_disputed 135 = .ok (.iaload, 1) := by decide +kernel
theorem dX6_disputed_136 : decode cX6_disputed 136 = .ok (.iload 6, 2) := by decide +kernel
theorem dX6_disputed_138 : decode cX6_disputed 138 = .ok (.if_icmp .eq 7, 3) := by decide +kernel
theorem dX6_disputed_141 : decode cX6_disputed 141 = .ok (.iconst 1, 1) := by decide +kernel
theorem dX6_disputed_142 : decode cX6_disputed 142 = .ok (.goto 4, 3) := by decide +kernel
theorem dX6_disputed_145 : decode cX6_disputed 145 = .ok (.iconst 0, 1) := by decide +kernel
theorem dX6_disputed_146 : decode cX6_disputed 146 = .ok (.istore 5, 2) := by decide +kernel
theorem dX6_disputed_148 : decode cX6_disputed 148 = .ok (.iinc 7 1, 3) := by decide +kernel
theorem dX6_disputed_151 : decode cX6_disputed 151 = .ok (.goto (-71), 3) := by decide +kernel
theorem dX6_disputed_154 : decode cX6_disputed 154 = .ok (.iload_n 3, 1) := by decide +kernel
theorem dX6_disputed_155 : decode cX6_disputed 155 = .ok (.iload 5, 2) := by decide +kernel
theorem dX6_disputed_157 : decode cX6_disputed 157 = .ok (.ifCond .eq 7, 3) := by decide +kernel
theorem dX6_disputed_160 : decode cX6_disputed 160 = .ok (.iconst 1, 1) := by decide +kernel
theorem dX6_disputed_161 : decode cX6_disputed 161 = .ok (.goto 4, 3) := by decide +kernel
theorem dX6_disputed_164 : decode cX6_disputed 164 = .ok (.iconst 0, 1) := by decide +kernel
theorem dX6_disputed_165 : decode cX6_disputed 165 = .ok (.iadd, 1) := by decide +kernel
theorem dX6_disputed_166 : decode cX6_disputed 166 = .ok (.istore_n 3, 1) := by decide +kernel
theorem dX6_disputed_167 : decode cX6_disputed 167 = .ok (.iinc 4 1, 3) := by decide +kernel
theorem dX6_disputed_170 : decode cX6_disputed 170 = .ok (.goto (-130), 3) := by decide +kernel
theorem dX6_disputed_173 : decode cX6_disputed 173 = .ok (.iload_n 3, 1) := by decide +kernel
theorem dX6_disputed_174 : decode cX6_disputed 174 = .ok (.ireturn, 1) := by decide +kernel
set_option maxRecDepth 20000 in
theorem ggX6_link_X6_isFind : GoodIn wsX6_link wsX6_isFind := goodIn_r _ [9, 10, 11, 12, 8, 13, 19, 20, 21, 22, 23, 24, 25, 26, 27, 28, 29, 30, 31, 32, 33, 34, 35, 36, 37, 38, 39, 40, 41] (by decide +kernel) (by decide +kernel)
set_option maxRecDepth 20000 in
theorem gX6_link_X6_isFind : GoodIn wsX6_link (wsV RX6 88 RX6 yX6_isFind wsX6_isFind) := goodIn_app (goodIn_of _ (by decide +kernel)) ggX6_link_X6_isFind
set_option maxRecDepth 20000 in
theorem ggX6_link_X6_in : GoodIn wsX6_link wsX6_in := goodIn_r _ [13] (by decide +kernel) (by decide +kernel)
set_option maxRecDepth 20000 in
theorem gX6_link_X6_in : GoodIn wsX6_link (va_wsS RX6 73 yX6_in wsX6_in) := goodIn_app (goodIn_of _ (by decide +kernel)) ggX6_link_X6_in
set_option maxRecDepth 20000 in
theorem ggX6_link_X6_refused : GoodIn wsX6_link wsX6_refused := goodIn_r _ [17, 18, 19, 20, 21, 22, 23, 24, 25, 26, 27, 28, 29, 30, 31, 32, 33, 34, 35, 36, 37, 38, 39, 40, 41] (by decide +kernel) (by decide +kernel)
set_option maxRecDepth 20000 in
theorem gX6_link_X6_refused : GoodIn wsX6_link (wsV RX6 80 RX6 yX6_refused wsX6_refused) := goodIn_app (goodIn_of _ (by decide +kernel)) ggX6_link_X6_refused
theorem dX6_link_0 : decode cX6_link 0 = .ok (.aload_n 0, 1) := by decide +kernel
theorem dX6_link_1 : decode cX6_link 1 = .ok (.iload_n 1, 1) := by decide +kernel
theorem dX6_link_2 : decode cX6_link 2 = .ok (.invokevirtual 88, 3) := by decide +kernel
theorem dX6_link_5 : decode cX6_link 5 = .ok (.ifCond .eq 15, 3) := by decide +kernel
theorem dX6_link_8 : decode cX6_link 8 = .ok (.aload_n 0, 1) := by decide +kernel
theorem dX6_link_9 : decode cX6_link 9 = .ok (.iload_n 2, 1) := by decide +kernel
theorem dX6_link_10 : decode cX6_link 10 = .ok (.invokevirtual 88, 3) := by decide +kernel
theorem dX6_link_13 : decode cX6_link 13 = .ok (.ifCond .eq 7, 3) := by decide +kernel
theorem dX6_link_16 : decode cX6_link 16 = .ok (.iconst 1, 1) := by decide +kernel
theorem dX6_link_17 : decode cX6_link 17 = .ok (.goto 4, 3) := by decide +kernel
theorem dX6_link_20 : decode cX6_link 20 = .ok (.iconst 0, 1) := by decide +kernel
theorem dX6_link_21 : decode cX6_link 21 = .ok (.istore 4, 2) := by decide +kernel
theorem dX6_link_23 : decode cX6_link 23 = .ok (.aload_n 0, 1) := by decide +kernel
theorem dX6_link_24 : decode cX6_link 24 = .ok (.iload 4, 2) := by decide +kernel
theorem dX6_link_26 : decode cX6_link 26 = .ok (.ifCond .ne 7, 3) := by decide +kernel
theorem dX6_link_29 : decode cX6_link 29 = .ok (.iconst 1, 1) := by decide +kernel
theorem dX6_link_30 : decode cX6_link 30 = .ok (.goto 35, 3) := by decide +kernel
theorem dX6_link_33 : decode cX6_link 33 = .ok (.iload_n 1, 1) := by decide +kernel
theorem dX6_link_34 : decode cX6_link 34 = .ok (.iload_n 2, 1) := by decide +kernel
theorem dX6_link_35 : decode cX6_link 35 = .ok (.if_icmp .eq 12, 3) := by decide +kernel
theorem dX6_link_38 : decode cX6_link 38 = .ok (.iload_n 3, 1) := by decide +kernel
theorem dX6_link_39 : decode cX6_link 39 = .ok (.iconst 0, 1) := by decide +kernel
theorem dX6_link_40 : decode cX6_link 40 = .ok (.iconst 3, 1) := by decide +kernel
theorem dX6_link_41 : decode cX6_link 41 = .ok (.invokestatic 73, 3) := by decide +kernel
theorem dX6_link_44 : decode cX6_link 44 = .ok (.ifCond .ne 7, 3) := by decide +kernel
theorem dX6_link_47 : decode cX6_link 47 = .ok (.iconst 2, 1) := by decide +kernel
theorem dX6_link_48 : decode cX6_link 48 = .ok (.goto 17, 3) := by decide +kernel
theorem dX6_link_51 : decode cX6_link 51 = .ok (.aload_n 0, 1) := by decide +kernel
theorem dX6_link_52 : decode cX6_link 52 = .ok (.getfield 127, 3) := by decide +kernel
theorem dX6_link_55 : decode cX6_link 55 = .ok (.bipush 40, 2) := by decide +kernel
theorem dX6_link_57 : decode cX6_link 57 = .ok (.if_icmp .ne 7, 3) := by decide +kernel
theorem dX6_link_60 : decode cX6_link 60 = .ok (.iconst 3, 1) := by decide +kernel
theorem dX6_link_61 : decode cX6_link 61 = .ok (.goto 4, 3) := by decide +kernel
theorem dX6_link_64 : decode cX6_link 64 = .ok (.iconst 0, 1) := by decide +kernel
theorem dX6_link_65 : decode cX6_link 65 = .ok (.invokevirtual 80, 3) := by decide +kernel
theorem dX6_link_68 : decode cX6_link 68 = .ok (.ifCond .eq 5, 3) := by decide +kernel
theorem dX6_link_71 : decode cX6_link 71 = .ok (.iconst 0, 1) := by decide +kernel
theorem dX6_link_72 : decode cX6_link 72 = .ok (.ireturn, 1) := by decide +kernel
theorem dX6_link_73 : decode cX6_link 73 = .ok (.aload_n 0, 1) := by decide +kernel
theorem dX6_link_74 : decode cX6_link 74 = .ok (.getfield 36, 3) := by decide +kernel
theorem dX6_link_77 : decode cX6_link 77 = .ok (.aload_n 0, 1) := by decide +kernel
theorem dX6_link_78 : decode cX6_link 78 = .ok (.getfield 127, 3) := by decide +kernel
theorem dX6_link_81 : decode cX6_link 81 = .ok (.iload_n 1, 1) := by decide +kernel
theorem dX6_link_82 : decode cX6_link 82 = .ok (.iastore, 1) := by decide +kernel
theorem dX6_link_83 : decode cX6_link 83 = .ok (.aload_n 0, 1) := by decide +kernel
theorem dX6_link_84 : decode cX6_link 84 = .ok (.getfield 39, 3) := by decide +kernel
theorem dX6_link_87 : decode cX6_link 87 = .ok (.aload_n 0, 1) := by decide +kernel
theorem dX6_link_88 : decode cX6_link 88 = .ok (.getfield 127, 3) := by decide +kernel
theorem dX6_link_91 : decode cX6_link 91 = .ok (.iload_n 2, 1) := by decide +kernel
theorem dX6_link_92 : decode cX6_link 92 = .ok (.iastore, 1) := by decide +kernel
theorem dX6_link_93 : decode cX6_link 93 = .ok (.aload_n 0, 1) := by decide +kernel
theorem dX6_link_94 : decode cX6_link 94 = .ok (.getfield 42, 3) := by decide +kernel
theorem dX6_link_97 : decode cX6_link 97 = .ok (.aload_n 0, 1) := by decide +kernel
theorem dX6_link_98 : decode cX6_link 98 = .ok (.getfield 127, 3) := by decide +kernel
theorem dX6_link_101 : decode cX6_link 101 = .ok (.iload_n 3, 1) := by decide +kernel
theorem dX6_link_102 : decode cX6_link 102 = .ok (.iastore, 1) := by decide +kernel
theorem dX6_link_103 : decode cX6_link 103 = .ok (.aload_n 0, 1) := by decide +kernel
theorem dX6_link_104 : decode cX6_link 104 = .ok (.dup, 1) := by decide +kernel
theorem dX6_link_105 : decode cX6_link 105 = .ok (.getfield 127, 3) := by decide +kernel
theorem dX6_link_108 : decode cX6_link 108 = .ok (.iconst 1, 1) := by decide +kernel
theorem dX6_link_109 : decode cX6_link 109 = .ok (.iadd, 1) := by decide +kernel
theorem dX6_link_110 : decode cX6_link 110 = .ok (.putfield 127, 3) := by decide +kernel
theorem dX6_link_113 : decode cX6_link 113 = .ok (.aload_n 0, 1) := by decide +kernel
theorem dX6_link_114 : decode cX6_link 114 = .ok (.getfield 127, 3) := by decide +kernel
theorem dX6_link_117 : decode cX6_link 117 = .ok (.ireturn, 1) := by decide +kernel
theorem dX6_isOf_0 : decode cX6_isOf 0 = .ok (.aload_n 0, 1) := by decide +kernel
theorem dX6_isOf_1 : decode cX6_isOf 1 = .ok (.getfield 57, 3) := by decide +kernel
theorem dX6_isOf_4 : decode cX6_isOf 4 = .ok (.aload_n 0, 1) := by decide +kernel
theorem dX6_isOf_5 : decode cX6_isOf 5 = .ok (.getfield 39, 3) := by decide +kernel
theorem dX6_isOf_8 : decode cX6_isOf 8 = .ok (.iload_n 1, 1) := by decide +kernel
theorem dX6_isOf_9 : decode cX6_isOf 9 = .ok (.iaload, 1) := by decide +kernel
theorem dX6_isOf_10 : decode cX6_isOf 10 = .ok (.iaload, 1) := by decide +kernel
theorem dX6_isOf_11 : decode cX6_isOf 11 = .ok (.istore 4, 2) := by decide +kernel
theorem dX6_isOf_13 : decode cX6_isOf 13 = .ok (.aload_n 0, 1) := by decide +kernel
theorem dX6_isOf_14 : decode cX6_isOf 14 = .ok (.getfield 57, 3) := by decide +kernel
theorem dX6_isOf_17 : decode cX6_isOf 17 = .ok (.aload_n 0, 1) := by decide +kernel
theorem dX6_isOf_18 : decode cX6_isOf 18 = .ok (.getfield 36, 3) := by decide +kernel
theorem dX6_isOf_21 : decode cX6_isOf 21 = .ok (.iload_n 1, 1) := by decide +kernel
theorem dX6_isOf_22 : decode cX6_isOf 22 = .ok (.iaload, 1) := by decide +kernel
theorem dX6_isOf_23 : decode cX6_isOf 23 = .ok (.iaload, 1) := by decide +kernel
theorem dX6_isOf_24 : decode cX6_isOf 24 = .ok (.iload_n 2, 1) := by decide +kernel
theorem dX6_isOf_25 : decode cX6_isOf 25 = .ok (.if_icmp .ne 28, 3) := by decide +kernel
theorem dX6_isOf_28 : decode cX6_isOf 28 = .ok (.aload_n 0, 1) := by decide +kernel
theorem dX6_isOf_29 : decode cX6_isOf 29 = .ok (.getfield 42, 3) := by decide +kernel
theorem dX6_isOf_32 : decode cX6_isOf 32 = .ok (.iload_n 1, 1) := by decide +kernel
theorem dX6_isOf_33 : decode cX6_isOf 33 = .ok (.iaload, 1) := by decide +kernel
theorem dX6_isOf_34 : decode cX6_isOf 34 = .ok (.iload_n 3, 1) := by decide +kernel
theorem dX6_isOf_35 : decode cX6_isOf 35 = .ok (.if_icmp .ne 18, 3) := by decide +kernel
theorem dX6_isOf_38 : decode cX6_isOf 38 = .ok (.iload 4, 2) := by decide +kernel
theorem dX6_isOf_40 : decode cX6_isOf 40 = .ok (.ifCond .lt 13, 3) := by decide +kernel
theorem dX6_isOf_43 : decode cX6_isOf 43 = .ok (.iload 4, 2) := by decide +kernel
theorem dX6_isOf_45 : decode cX6_isOf 45 = .ok (.iload_n 2, 1) := by decide +kernel
theorem dX6_isOf_46 : decode cX6_isOf 46 = .ok (.if_icmp .eq 7, 3) := by decide +kernel
theorem dX6_isOf_49 : decode cX6_isOf 49 = .ok (.iconst 1, 1) := by decide +kernel
theorem dX6_isOf_50 : decode cX6_isOf 50 = .ok (.goto 4, 3) := by decide +kernel
theorem dX6_isOf_53 : decode cX6_isOf 53 = .ok (.iconst 0, 1) := by decide +kernel
theorem dX6_isOf_54 : decode cX6_isOf 54 = .ok (.ireturn, 1) := by decide +kernel
set_option maxRecDepth 20000 in
theorem ggX6_falls_X6_isOf : GoodIn wsX6_falls wsX6_isOf := goodIn_r _ [9, 3, 4, 10, 11, 12, 13, 14, 15, 16, 17, 18, 19, 20, 21, 22, 23, 24, 25, 26, 27, 28, 29, 30, 31, 32, 33, 34] (by decide +kernel) (by decide +kernel)
set_option maxRecDepth 20000 in
theorem gX6_falls_X6_isOf : GoodIn wsX6_falls (wsV RX6 130 RX6 yX6_isOf wsX6_isOf) := goodIn_app (goodIn_of _ (by decide +kernel)) ggX6_falls_X6_isOf
theorem dX6_falls_0 : decode cX6_falls 0 = .ok (.iconst 0, 1) := by decide +kernel
theorem dX6_falls_1 : decode cX6_falls 1 = .ok (.istore_n 2, 1) := by decide +kernel
theorem dX6_falls_2 : decode cX6_falls 2 = .ok (.iconst 0, 1) := by decide +kernel
theorem dX6_falls_3 : decode cX6_falls 3 = .ok (.istore_n 3, 1) := by decide +kernel
theorem dX6_falls_4 : decode cX6_falls 4 = .ok (.iload_n 3, 1) := by decide +kernel
theorem dX6_falls_5 : decode cX6_falls 5 = .ok (.iconst 4, 1) := by decide +kernel
theorem dX6_falls_6 : decode cX6_falls 6 = .ok (.if_icmp .ge 99, 3) := by decide +kernel
theorem dX6_falls_9 : decode cX6_falls 9 = .ok (.iconst 0, 1) := by decide +kernel
theorem dX6_falls_10 : decode cX6_falls 10 = .ok (.istore 4, 2) := by decide +kernel
theorem dX6_falls_12 : decode cX6_falls 12 = .ok (.iconst 1, 1) := by decide +kernel
theorem dX6_falls_13 : decode cX6_falls 13 = .ok (.istore 5, 2) := by decide +kernel
theorem dX6_falls_15 : decode cX6_falls 15 = .ok (.iconst 0, 1) := by decide +kernel
theorem dX6_falls_16 : decode cX6_falls 16 = .ok (.istore 6, 2) := by decide +kernel
theorem dX6_falls_18 : decode cX6_falls 18 = .ok (.iload 6, 2) := by decide +kernel
theorem dX6_falls_20 : decode cX6_falls 20 = .ok (.aload_n 0, 1) := by decide +kernel
theorem dX6_falls_21 : decode cX6_falls 21 = .ok (.getfield 127, 3) := by decide +kernel
theorem dX6_falls_24 : decode cX6_falls 24 = .ok (.if_icmp .ge 55, 3) := by decide +kernel
theorem dX6_falls_27 : decode cX6_falls 27 = .ok (.aload_n 0, 1) := by decide +kernel
theorem dX6_falls_28 : decode cX6_falls 28 = .ok (.iload 6, 2) := by decide +kernel
theorem dX6_falls_30 : decode cX6_falls 30 = .ok (.iload_n 1, 1) := by decide +kernel
theorem dX6_falls_31 : decode cX6_falls 31 = .ok (.iload_n 3, 1) := by decide +kernel
theorem dX6_falls_32 : decode cX6_falls 32 = .ok (.invokevirtual 130, 3) := by decide +kernel
theorem dX6_falls_35 : decode cX6_falls 35 = .ok (.ifCond .eq 38, 3) := by decide +kernel
theorem dX6_falls_38 : decode cX6_falls 38 = .ok (.iconst 1, 1) := by decide +kernel
theorem dX6_falls_39 : decode cX6_falls 39 = .ok (.istore 4, 2) := by decide +kernel
theorem dX6_falls_41 : decode cX6_falls 41 = .ok (.iload 5, 2) := by decide +kernel
theorem dX6_falls_43 : decode cX6_falls 43 = .ok (.ifCond .eq 27, 3) := by decide +kernel
theorem dX6_falls_46 : decode cX6_falls 46 = .ok (.aload_n 0, 1) := by decide +kernel
theorem dX6_falls_47 : decode cX6_falls 47 = .ok (.getfield 63, 3) := by decide +kernel
theorem dX6_falls_50 : decode cX6_falls 50 = .ok (.aload_n 0, 1) := by decide +kernel
theorem dX6_falls_51 : decode cX6_falls 51 = .ok (.getfield 57, 3) := by decide +kernel
theorem dX6_falls_54 : decode cX6_falls 54 = .ok (.aload_n 0, 1) := by decide +kernel
theorem dX6_falls_55 : decode cX6_falls 55 = .ok (.getfield 39, 3) := by decide +kernel
theorem dX6_falls_58 : decode cX6_falls 58 = .ok (.iload 6, 2) := by decide +kernel
theorem dX6_falls_60 : decode cX6_falls 60 = .ok (.iaload, 1) := by decide +kernel
theorem dX6_falls_61 : decode cX6_falls 61 = .ok (.iaload, 1) := by decide +kernel
theorem dX6_falls_62 : decode cX6_falls 62 = .ok (.baload, 1) := by decide +kernel
theorem dX6_falls_63 : decode cX6_falls 63 = .ok (.ifCond .eq 7, 3) := by decide +kernel
theorem dX6_falls_66 : decode cX6_falls 66 = .ok (.iconst 1, 1) := by decide +kernel
theorem dX6_falls_67 : decode cX6_falls 67 = .ok (.goto 4, 3) := by decide +kernel
theorem dX6_falls_70 : decode cX6_falls 70 = .ok (.iconst 0, 1) := by decide +kernel
theorem dX6_falls_71 : decode cX6_falls 71 = .ok (.istore 5, 2) := by decide +kernel
theorem dX6_falls_73 : decode cX6_falls 73 = .ok (.iinc 6 1, 3) := by decide +kernel
theorem dX6_falls_76 : decode cX6_falls 76 = .ok (.goto (-58), 3) := by decide +kernel
theorem dX6_falls_79 : decode cX6_falls 79 = .ok (.iload_n 2, 1) := by decide +kernel
theorem dX6_falls_80 : decode cX6_falls 80 = .ok (.ifCond .ne 13, 3) := by decide +kernel
theorem dX6_falls_83 : decode cX6_falls 83 = .ok (.iload 4, 2) := by decide +kernel
theorem dX6_falls_85 : decode cX6_falls 85 = .ok (.ifCond .eq 12, 3) := by decide +kernel
theorem dX6_falls_88 : decode cX6_falls 88 = .ok (.iload 5, 2) := by decide +kernel
theorem dX6_falls_90 : decode cX6_falls 90 = .ok (.ifCond .eq 7, 3) := by decide +kernel
theorem dX6_falls_93 : decode cX6_falls 93 = .ok (.iconst 1, 1) := by decide +kernel
theorem dX6_falls_94 : decode cX6_falls 94 = .ok (.goto 4, 3) := by decide +kernel
theorem dX6_falls_97 : decode cX6_falls 97 = .ok (.iconst 0, 1) := by decide +kernel
theorem dX6_falls_98 : decode cX6_falls 98 = .ok (.istore_n 2, 1) := by decide +kernel
theorem dX6_falls_99 : decode cX6_falls 99 = .ok (.iinc 3 1, 3) := by decide +kernel
theorem dX6_falls_102 : decode cX6_falls 102 = .ok (.goto (-98), 3) := by decide +kernel
theorem dX6_falls_105 : decode cX6_falls 105 = .ok (.iload_n 2, 1) := by decide +kernel
theorem dX6_falls_106 : decode cX6_falls 106 = .ok (.ireturn, 1) := by decide +kernel
set_option maxRecDepth 20000 in
theorem ggX6_spread_X6_falls : GoodIn wsX6_spread wsX6_falls := goodIn_r _ [8, 9, 2, 3, 10, 11, 12, 13, 7, 14, 15, 16, 17, 18, 19, 20, 21, 22, 23, 24, 25, 26, 27, 28, 29, 30, 31, 32, 33, 34, 35, 36, 37, 38, 39] (by decide +kernel) (by decide +kernel)
set_option maxRecDepth 20000 in
theorem gX6_spread_X6_falls : GoodIn wsX6_spread (wsV RX6 133 RX6 yX6_falls wsX6_falls) := goodIn_app (goodIn_of _ (by decide +kernel)) ggX6_spread_X6_falls
theorem dX6_spread_0 : decode cX6_spread 0 = .ok (.iconst 0, 1) := by decide +kernel
theorem dX6_spread_1 : decode cX6_spread 1 = .ok (.istore_n 2, 1) := by decide +kernel
theorem dX6_spread_2 : decode cX6_spread 2 = .ok (.iload_n 2, 1) := by decide +kernel
theorem dX6_spread_3 : decode cX6_spread 3 = .ok (.aload_n 0, 1) := by decide +kernel
theorem dX6_spread_4 : decode cX6_spread 4 = .ok (.getfield 70, 3) := by decide +kernel
theorem dX6_spread_7 : decode cX6_spread 7 = .ok (.if_icmp .ge 25, 3) := by decide +kernel
theorem dX6_spread_10 : decode cX6_spread 10 = .ok (.aload_n 0, 1) := by decide +kernel
theorem dX6_spread_11 : decode cX6_spread 11 = .ok (.getfield 63, 3) := by decide +kernel
theorem dX6_spread_14 : decode cX6_spread 14 = .ok (.iload_n 2, 1) := by decide +kernel
theorem dX6_spread_15 : decode cX6_spread 15 = .ok (.iload_n 2, 1) := by decide +kernel
theorem dX6_spread_16 : decode cX6_spread 16 = .ok (.iload_n 1, 1) := by decide +kernel
theorem dX6_spread_17 : decode cX6_spread 17 = .ok (.if_icmp .ne 7, 3) := by decide +kernel
theorem dX6_spread_20 : decode cX6_spread 20 = .ok (.iconst 1, 1) := by decide +kernel
theorem dX6_spread_21 : decode cX6_spread 21 = .ok (.goto 4, 3) := by decide +kernel
theorem dX6_spread_24 : decode cX6_spread 24 = .ok (.iconst 0, 1) := by decide +kernel
theorem dX6_spread_25 : decode cX6_spread 25 = .ok (.bastore, 1) := by decide +kernel
theorem dX6_spread_26 : decode cX6_spread 26 = .ok (.iinc 2 1, 3) := by decide +kernel
theorem dX6_spread_29 : decode cX6_spread 29 = .ok (.goto (-27), 3) := by decide +kernel
theorem dX6_spread_32 : decode cX6_spread 32 = .ok (.iconst 1, 1) := by decide +kernel
theorem dX6_spread_33 : decode cX6_spread 33 = .ok (.istore_n 2, 1) := by decide +kernel
theorem dX6_spread_34 : decode cX6_spread 34 = .ok (.iconst 0, 1) := by decide +kernel
theorem dX6_spread_35 : decode cX6_spread 35 = .ok (.istore_n 3, 1) := by decide +kernel
theorem dX6_spread_36 : decode cX6_spread 36 = .ok (.iload_n 2, 1) := by decide +kernel
theorem dX6_spread_37 : decode cX6_spread 37 = .ok (.iload_n 3, 1) := by decide +kernel
theorem dX6_spread_38 : decode cX6_spread 38 = .ok (.if_icmp .le 68, 3) := by decide +kernel
theorem dX6_spread_41 : decode cX6_spread 41 = .ok (.iload_n 2, 1) := by decide +kernel
theorem dX6_spread_42 : decode cX6_spread 42 = .ok (.istore_n 3, 1) := by decide +kernel
theorem dX6_spread_43 : decode cX6_spread 43 = .ok (.iconst 0, 1) := by decide +kernel
theorem dX6_spread_44 : decode cX6_spread 44 = .ok (.istore 4, 2) := by decide +kernel
theorem dX6_spread_46 : decode cX6_spread 46 = .ok (.iload 4, 2) := by decide +kernel
theorem dX6_spread_48 : decode cX6_spread 48 = .ok (.aload_n 0, 1) := by decide +kernel
theorem dX6_spread_49 : decode cX6_spread 49 = .ok (.getfield 70, 3) := by decide +kernel
theorem dX6_spread_52 : decode cX6_spread 52 = .ok (.if_icmp .ge 51, 3) := by decide +kernel
theorem dX6_spread_55 : decode cX6_spread 55 = .ok (.aload_n 0, 1) := by decide +kernel
theorem dX6_spread_56 : decode cX6_spread 56 = .ok (.getfield 57, 3) := by decide +kernel
theorem dX6_spread_59 : decode cX6_spread 59 = .ok (.iload 4, 2) := by decide +kernel
theorem dX6_spread_61 : decode cX6_spread 61 = .ok (.iaload, 1) := by decide +kernel
theorem dX6_spread_62 : decode cX6_spread 62 = .ok (.iload 4, 2) := by decide +kernel
theorem dX6_spread_64 : decode cX6_spread 64 = .ok (.if_icmp .ne 33, 3) := by decide +kernel
theorem dX6_spread_67 : decode cX6_spread 67 = .ok (.aload_n 0, 1) := by decide +kernel
theorem dX6_spread_68 : decode cX6_spread 68 = .ok (.getfield 63, 3) := by decide +kernel
theorem dX6_spread_71 : decode cX6_spread 71 = .ok (.iload 4, 2) := by decide +kernel
theorem dX6_spread_73 : decode cX6_spread 73 = .ok (.baload, 1) := by decide +kernel
theorem dX6_spread_74 : decode cX6_spread 74 = .ok (.ifCond .ne 23, 3) := by decide +kernel
theorem dX6_spread_77 : decode cX6_spread 77 = .ok (.aload_n 0, 1) := by decide +kernel
theorem dX6_spread_78 : decode cX6_spread 78 = .ok (.iload 4, 2) := by decide +kernel
theorem dX6_spread_80 : decode cX6_spread 80 = .ok (.invokevirtual 133, 3) := by decide +kernel
theorem dX6_spread_83 : decode cX6_spread 83 = .ok (.ifCond .eq 14, 3) := by decide +kernel
theorem dX6_spread_86 : decode cX6_spread 86 = .ok (.aload_n 0, 1) := by decide +kernel
theorem dX6_spread_87 : decode cX6_spread 87 = .ok (.getfield 63, 3) := by decide +kernel
theorem dX6_spread_90 : decode cX6_spread 90 = .ok (.iload 4, 2) := by decide +kernel
theorem dX6_spread_92 : decode cX6_spread 92 = .ok (.iconst 1, 1) := by decide +kernel
theorem dX6_spread_93 : decode cX6_spread 93 = .ok (.bastore, 1) := by decide +kernel
theorem dX6_spread_94 : decode cX6_spread 94 = .ok (.iinc 2 1, 3) := by decide +kernel
theorem dX6_spread_97 : decode cX6_spread 97 = .ok (.iinc 4 1, 3) := by decide +kernel
theorem dX6_spread_100 : decode cX6_spread 100 = .ok (.goto (-54), 3) := by decide +kernel
theorem dX6_spread_103 : decode cX6_spread 103 = .ok (.goto (-67), 3) := by decide +kernel
theorem dX6_spread_106 : decode cX6_spread 106 = .ok (.iload_n 2, 1) := by decide +kernel
theorem dX6_spread_107 : decode cX6_spread 107 = .ok (.ireturn, 1) := by decide +kernel
set_option maxRecDepth 20000 in
theorem ggX6_impact_X6_looked : GoodIn wsX6_impact wsX6_looked := goodIn_r _ [6, 1, 7, 8, 9, 5, 10, 11, 12, 13, 14, 15, 16, 17, 18, 19, 20, 21, 22, 23, 24, 25, 26, 27, 28, 29, 30, 31, 32, 33, 34, 35, 36, 37, 38, 39, 40, 41, 42, 43, 66, 67, 68, 69, 70, 71, 72, 73, 74, 75, 76, 77, 78, 79, 80, 81, 82, 83, 84, 85, 86, 87, 88] (by decide +kernel) (by decide +kernel)
set_option maxRecDepth 20000 in
theorem gX6_impact_X6_looked : GoodIn wsX6_impact (wsV RX6 116 RX6 yX6_looked wsX6_looked) := goodIn_app (goodIn_of _ (by decide +kernel)) ggX6_impact_X6_looked
set_option maxRecDepth 20000 in
theorem ggX6_impact_X6_refused : GoodIn wsX6_impact wsX6_refused := goodIn_r _ [47, 48, 66, 67, 68, 69, 70, 71, 72, 73, 74, 75, 76, 77, 78, 79, 80, 81, 82, 83, 84, 85, 86, 87, 88] (by decide +kernel) (by decide +kernel)
set_option maxRecDepth 20000 in
theorem gX6_impact_X6_refused : GoodIn wsX6_impact (wsV RX6 80 RX6 yX6_refused wsX6_refused) := goodIn_app (goodIn_of _ (by decide +kernel)) ggX6_impact_X6_refused
set_option maxRecDepth 20000 in
theorem ggX6_impact_X6_spread : GoodIn wsX6_impact wsX6_spread := goodIn_r _ [52, 11, 53, 1, 54, 55, 56, 5, 57, 58, 59, 60, 61, 62, 63, 64, 65, 66, 67, 68, 69, 70, 71, 72, 73, 74, 75, 76, 77, 78, 79, 80, 81, 82, 83, 84, 85, 86, 87, 88] (by decide +kernel) (by decide +kernel)
set_option maxRecDepth 20000 in
theorem gX6_impact_X6_spread : GoodIn wsX6_impact (wsV RX6 136 RX6 yX6_spread wsX6_spread) := goodIn_app (goodIn_of _ (by decide +kernel)) ggX6_impact_X6_spread
theorem dX6_impact_0 : decode cX6_impact 0 = .ok (.aload_n 0, 1) := by decide +kernel
theorem dX6_impact_1 : decode cX6_impact 1 = .ok (.aload_n 0, 1) := by decide +kernel
theorem dX6_impact_2 : decode cX6_impact 2 = .ok (.iload_n 1, 1) := by decide +kernel
theorem dX6_impact_3 : decode cX6_impact 3 = .ok (.iload_n 2, 1) := by decide +kernel
theorem dX6_impact_4 : decode cX6_impact 4 = .ok (.iconst 1, 1) := by decide +kernel
theorem dX6_impact_5 : decode cX6_impact 5 = .ok (.invokevirtual 116, 3) := by decide +kernel
theorem dX6_impact_8 : decode cX6_impact 8 = .ok (.invokevirtual 80, 3) := by decide +kernel
theorem dX6_impact_11 : decode cX6_impact 11 = .ok (.ifCond .eq 7, 3) := by decide +kernel
theorem dX6_impact_14 : decode cX6_impact 14 = .ok (.iconst 0, 1) := by decide +kernel
theorem dX6_impact_15 : decode cX6_impact 15 = .ok (.goto 13, 3) := by decide +kernel
theorem dX6_impact_18 : decode cX6_impact 18 = .ok (.aload_n 0, 1) := by decide +kernel
theorem dX6_impact_19 : decode cX6_impact 19 = .ok (.aload_n 0, 1) := by decide +kernel
theorem dX6_impact_20 : decode cX6_impact 20 = .ok (.getfield 57, 3) := by decide +kernel
theorem dX6_impact_23 : decode cX6_impact 23 = .ok (.iload_n 1, 1) := by decide +kernel
theorem dX6_impact_24 : decode cX6_impact 24 = .ok (.iaload, 1) := by decide +kernel
theorem dX6_impact_25 : decode cX6_impact 25 = .ok (.invokevirtual 136, 3) := by decide +kernel
theorem dX6_impact_28 : decode cX6_impact 28 = .ok (.ireturn, 1) := by decide +kernel
set_option maxRecDepth 20000 in
theorem ggX6_failsWith_X6_isFind : GoodIn wsX6_failsWith wsX6_isFind := goodIn_r _ [7, 8, 9, 10, 6, 11, 66, 67, 68, 69, 70, 71, 72, 73, 74, 75, 76, 77, 78, 79, 80, 81, 82, 83, 84, 85, 86, 87, 88] (by decide +kernel) (by decide +kernel)
set_option maxRecDepth 20000 in
theorem gX6_failsWith_X6_isFind : GoodIn wsX6_failsWith (wsV RX6 88 RX6 yX6_isFind wsX6_isFind) := goodIn_app (goodIn_of _ (by decide +kernel)) ggX6_failsWith_X6_isFind
set_option maxRecDepth 20000 in
theorem ggX6_failsWith_X6_looked : GoodIn wsX6_failsWith wsX6_looked := goodIn_r _ [15, 1, 3, 4, 5, 6, 7, 8, 9, 10, 11, 16, 17, 18, 19, 20, 21, 22, 23, 24, 25, 26, 27, 28, 29, 30, 31, 32, 33, 34, 35, 36, 37, 38, 39, 40, 41, 42, 43, 44, 66, 67, 68, 69, 70, 71, 72, 73, 74, 75, 76, 77, 78, 79, 80, 81, 82, 83, 84, 85, 86, 87, 88] (by decide +kernel) (by decide +kernel)
set_option maxRecDepth 20000 in
theorem gX6_failsWith_X6_looked : GoodIn wsX6_failsWith (wsV RX6 116 RX6 yX6_looked wsX6_looked) := goodIn_app (goodIn_of _ (by decide +kernel)) ggX6_failsWith_X6_looked
set_option maxRecDepth 20000 in
theorem ggX6_failsWith_X6_refused : GoodIn wsX6_failsWith wsX6_refused := goodIn_r _ [48, 49, 66, 67, 68, 69, 70, 71, 72, 73, 74, 75, 76, 77, 78, 79, 80, 81, 82, 83, 84, 85, 86, 87, 88] (by decide +kernel) (by decide +kernel)
set_option maxRecDepth 20000 in
theorem gX6_failsWith_X6_refused : GoodIn wsX6_failsWith (wsV RX6 80 RX6 yX6_refused wsX6_refused) := goodIn_app (goodIn_of _ (by decide +kernel)) ggX6_failsWith_X6_refused
set_option maxRecDepth 20000 in
theorem ggX6_failsWith_X6_spread : GoodIn wsX6_failsWith wsX6_spread := goodIn_r _ [53, 8, 2, 1, 54, 55, 56, 6, 57, 58, 59, 60, 61, 62, 63, 64, 65, 66, 67, 68, 69, 70, 71, 72, 73, 74, 75, 76, 77, 78, 79, 80, 81, 82, 83, 84, 85, 86, 87, 88] (by decide +kernel) (by decide +kernel)
set_option maxRecDepth 20000 in
theorem gX6_failsWith_X6_spread : GoodIn wsX6_failsWith (wsV RX6 136 RX6 yX6_spread wsX6_spread) := goodIn_app (goodIn_of _ (by decide +kernel)) ggX6_failsWith_X6_spread
theorem dX6_failsWith_0 : decode cX6_failsWith 0 = .ok (.aload_n 0, 1) := by decide +kernel
theorem dX6_failsWith_1 : decode cX6_failsWith 1 = .ok (.iload_n 1, 1) := by decide +kernel
theorem dX6_failsWith_2 : decode cX6_failsWith 2 = .ok (.invokevirtual 88, 3) := by decide +kernel
theorem dX6_failsWith_5 : decode cX6_failsWith 5 = .ok (.ifCond .eq 15, 3) := by decide +kernel
theorem dX6_failsWith_8 : decode cX6_failsWith 8 = .ok (.aload_n 0, 1) := by decide +kernel
theorem dX6_failsWith_9 : decode cX6_failsWith 9 = .ok (.iload_n 2, 1) := by decide +kernel
theorem dX6_failsWith_10 : decode cX6_failsWith 10 = .ok (.invokevirtual 88, 3) := by decide +kernel
theorem dX6_failsWith_13 : decode cX6_failsWith 13 = .ok (.ifCond .eq 7, 3) := by decide +kernel
theorem dX6_failsWith_16 : decode cX6_failsWith 16 = .ok (.iconst 1, 1) := by decide +kernel
theorem dX6_failsWith_17 : decode cX6_failsWith 17 = .ok (.goto 4, 3) := by decide +kernel
theorem dX6_failsWith_20 : decode cX6_failsWith 20 = .ok (.iconst 0, 1) := by decide +kernel
theorem dX6_failsWith_21 : decode cX6_failsWith 21 = .ok (.istore 4, 2) := by decide +kernel
theorem dX6_failsWith_23 : decode cX6_failsWith 23 = .ok (.iload 4, 2) := by decide +kernel
theorem dX6_failsWith_25 : decode cX6_failsWith 25 = .ok (.ifCond .eq 13, 3) := by decide +kernel
theorem dX6_failsWith_28 : decode cX6_failsWith 28 = .ok (.aload_n 0, 1) := by decide +kernel
theorem dX6_failsWith_29 : decode cX6_failsWith 29 = .ok (.iload_n 1, 1) := by decide +kernel
theorem dX6_failsWith_30 : decode cX6_failsWith 30 = .ok (.iload_n 3, 1) := by decide +kernel
theorem dX6_failsWith_31 : decode cX6_failsWith 31 = .ok (.iconst 1, 1) := by decide +kernel
theorem dX6_failsWith_32 : decode cX6_failsWith 32 = .ok (.invokevirtual 116, 3) := by decide +kernel
theorem dX6_failsWith_35 : decode cX6_failsWith 35 = .ok (.goto 4, 3) := by decide +kernel
theorem dX6_failsWith_38 : decode cX6_failsWith 38 = .ok (.iconst 1, 1) := by decide +kernel
theorem dX6_failsWith_39 : decode cX6_failsWith 39 = .ok (.istore 5, 2) := by decide +kernel
theorem dX6_failsWith_41 : decode cX6_failsWith 41 = .ok (.iload 4, 2) := by decide +kernel
theorem dX6_failsWith_43 : decode cX6_failsWith 43 = .ok (.ifCond .eq 13, 3) := by decide +kernel
theorem dX6_failsWith_46 : decode cX6_failsWith 46 = .ok (.aload_n 0, 1) := by decide +kernel
theorem dX6_failsWith_47 : decode cX6_failsWith 47 = .ok (.iload_n 2, 1) := by decide +kernel
theorem dX6_failsWith_48 : decode cX6_failsWith 48 = .ok (.iload_n 3, 1) := by decide +kernel
theorem dX6_failsWith_49 : decode cX6_failsWith 49 = .ok (.iconst 1, 1) := by decide +kernel
theorem dX6_failsWith_50 : decode cX6_failsWith 50 = .ok (.invokevirtual 116, 3) := by decide +kernel
theorem dX6_failsWith_53 : decode cX6_failsWith 53 = .ok (.goto 4, 3) := by decide +kernel
theorem dX6_failsWith_56 : decode cX6_failsWith 56 = .ok (.iconst 1, 1) := by decide +kernel
theorem dX6_failsWith_57 : decode cX6_failsWith 57 = .ok (.istore 6, 2) := by decide +kernel
theorem dX6_failsWith_59 : decode cX6_failsWith 59 = .ok (.aload_n 0, 1) := by decide +kernel
theorem dX6_failsWith_60 : decode cX6_failsWith 60 = .ok (.iload 5, 2) := by decide +kernel
theorem dX6_failsWith_62 : decode cX6_failsWith 62 = .ok (.ifCond .ne 8, 3) := by decide +kernel
theorem dX6_failsWith_65 : decode cX6_failsWith 65 = .ok (.iload 6, 2) := by decide +kernel
theorem dX6_failsWith_67 : decode cX6_failsWith 67 = .ok (.goto 5, 3) := by decide +kernel
theorem dX6_failsWith_70 : decode cX6_failsWith 70 = .ok (.iload 5, 2) := by decide +kernel
theorem dX6_failsWith_72 : decode cX6_failsWith 72 = .ok (.invokevirtual 80, 3) := by decide +kernel
theorem dX6_failsWith_75 : decode cX6_failsWith 75 = .ok (.ifCond .eq 5, 3) := by decide +kernel
theorem dX6_failsWith_78 : decode cX6_failsWith 78 = .ok (.iconst 0, 1) := by decide +kernel
theorem dX6_failsWith_79 : decode cX6_failsWith 79 = .ok (.ireturn, 1) := by decide +kernel
theorem dX6_failsWith_80 : decode cX6_failsWith 80 = .ok (.aload_n 0, 1) := by decide +kernel
theorem dX6_failsWith_81 : decode cX6_failsWith 81 = .ok (.aload_n 0, 1) := by decide +kernel
theorem dX6_failsWith_82 : decode cX6_failsWith 82 = .ok (.getfield 57, 3) := by decide +kernel
theorem dX6_failsWith_85 : decode cX6_failsWith 85 = .ok (.iload_n 2, 1) := by decide +kernel
theorem dX6_failsWith_86 : decode cX6_failsWith 86 = .ok (.iaload, 1) := by decide +kernel
theorem dX6_failsWith_87 : decode cX6_failsWith 87 = .ok (.invokevirtual 136, 3) := by decide +kernel
theorem dX6_failsWith_90 : decode cX6_failsWith 90 = .ok (.pop, 1) := by decide +kernel
theorem dX6_failsWith_91 : decode cX6_failsWith 91 = .ok (.aload_n 0, 1) := by decide +kernel
theorem dX6_failsWith_92 : decode cX6_failsWith 92 = .ok (.getfield 63, 3) := by decide +kernel
theorem dX6_failsWith_95 : decode cX6_failsWith 95 = .ok (.aload_n 0, 1) := by decide +kernel
theorem dX6_failsWith_96 : decode cX6_failsWith 96 = .ok (.getfield 57, 3) := by decide +kernel
theorem dX6_failsWith_99 : decode cX6_failsWith 99 = .ok (.iload_n 1, 1) := by decide +kernel
theorem dX6_failsWith_100 : decode cX6_failsWith 100 = .ok (.iaload, 1) := by decide +kernel
theorem dX6_failsWith_101 : decode cX6_failsWith 101 = .ok (.baload, 1) := by decide +kernel
theorem dX6_failsWith_102 : decode cX6_failsWith 102 = .ok (.ireturn, 1) := by decide +kernel
set_option maxRecDepth 20000 in
theorem ggX6_wish_X6_in : GoodIn wsX6_wish wsX6_in := goodIn_r _ [9] (by decide +kernel) (by decide +kernel)
set_option maxRecDepth 20000 in
theorem gX6_wish_X6_in : GoodIn wsX6_wish (va_wsS RX6 73 yX6_in wsX6_in) := goodIn_app (goodIn_of _ (by decide +kernel)) ggX6_wish_X6_in
set_option maxRecDepth 20000 in
theorem ggX6_wish_X6_refused : GoodIn wsX6_wish wsX6_refused := goodIn_r _ [13, 14, 15, 16, 17, 18, 19, 20, 21, 22, 23, 24, 25, 26, 27, 28, 29, 30, 31, 32, 33, 34, 35, 36, 37] (by decide +kernel) (by decide +kernel)
set_option maxRecDepth 20000 in
theorem gX6_wish_X6_refused : GoodIn wsX6_wish (wsV RX6 80 RX6 yX6_refused wsX6_refused) := goodIn_app (goodIn_of _ (by decide +kernel)) ggX6_wish_X6_refused
theorem dX6_wish_0 : decode cX6_wish 0 = .ok (.iload_n 1, 1) := by decide +kernel
theorem dX6_wish_1 : decode cX6_wish 1 = .ok (.iconst 0, 1) := by decide +kernel
theorem dX6_wish_2 : decode cX6_wish 2 = .ok (.iconst 2, 1) := by decide +kernel
theorem dX6_wish_3 : decode cX6_wish 3 = .ok (.invokestatic 73, 3) := by decide +kernel
theorem dX6_wish_6 : decode cX6_wish 6 = .ok (.ifCond .eq 37, 3) := by decide +kernel
theorem dX6_wish_9 : decode cX6_wish 9 = .ok (.iload_n 2, 1) := by decide +kernel
theorem dX6_wish_10 : decode cX6_wish 10 = .ok (.iconst 1, 1) := by decide +kernel
theorem dX6_wish_11 : decode cX6_wish 11 = .ok (.bipush 99, 2) := by decide +kernel
theorem dX6_wish_13 : decode cX6_wish 13 = .ok (.invokestatic 73, 3) := by decide +kernel
theorem dX6_wish_16 : decode cX6_wish 16 = .ok (.ifCond .eq 27, 3) := by decide +kernel
theorem dX6_wish_19 : decode cX6_wish 19 = .ok (.iload_n 3, 1) := by decide +kernel
theorem dX6_wish_20 : decode cX6_wish 20 = .ok (.iconst 0, 1) := by decide +kernel
theorem dX6_wish_21 : decode cX6_wish 21 = .ok (.iconst 1, 1) := by decide +kernel
theorem dX6_wish_22 : decode cX6_wish 22 = .ok (.invokestatic 73, 3) := by decide +kernel
theorem dX6_wish_25 : decode cX6_wish 25 = .ok (.ifCond .eq 18, 3) := by decide +kernel
theorem dX6_wish_28 : decode cX6_wish 28 = .ok (.iload 4, 2) := by decide +kernel
theorem dX6_wish_30 : decode cX6_wish 30 = .ok (.iconst 0, 1) := by decide +kernel
theorem dX6_wish_31 : decode cX6_wish 31 = .ok (.bipush 99, 2) := by decide +kernel
theorem dX6_wish_33 : decode cX6_wish 33 = .ok (.invokestatic 73, 3) := by decide +kernel
theorem dX6_wish_36 : decode cX6_wish 36 = .ok (.ifCond .eq 7, 3) := by decide +kernel
theorem dX6_wish_39 : decode cX6_wish 39 = .ok (.iconst 1, 1) := by decide +kernel
theorem dX6_wish_40 : decode cX6_wish 40 = .ok (.goto 4, 3) := by decide +kernel
theorem dX6_wish_43 : decode cX6_wish 43 = .ok (.iconst 0, 1) := by decide +kernel
theorem dX6_wish_44 : decode cX6_wish 44 = .ok (.istore 5, 2) := by decide +kernel
theorem dX6_wish_46 : decode cX6_wish 46 = .ok (.aload_n 0, 1) := by decide +kernel
theorem dX6_wish_47 : decode cX6_wish 47 = .ok (.iload 5, 2) := by decide +kernel
theorem dX6_wish_49 : decode cX6_wish 49 = .ok (.ifCond .ne 7, 3) := by decide +kernel
theorem dX6_wish_52 : decode cX6_wish 52 = .ok (.iconst 1, 1) := by decide +kernel
theorem dX6_wish_53 : decode cX6_wish 53 = .ok (.goto 17, 3) := by decide +kernel
theorem dX6_wish_56 : decode cX6_wish 56 = .ok (.aload_n 0, 1) := by decide +kernel
theorem dX6_wish_57 : decode cX6_wish 57 = .ok (.getfield 139, 3) := by decide +kernel
theorem dX6_wish_60 : decode cX6_wish 60 = .ok (.bipush 20, 2) := by decide +kernel
theorem dX6_wish_62 : decode cX6_wish 62 = .ok (.if_icmp .ne 7, 3) := by decide +kernel
theorem dX6_wish_65 : decode cX6_wish 65 = .ok (.iconst 2, 1) := by decide +kernel
theorem dX6_wish_66 : decode cX6_wish 66 = .ok (.goto 4, 3) := by decide +kernel
theorem dX6_wish_69 : decode cX6_wish 69 = .ok (.iconst 0, 1) := by decide +kernel
theorem dX6_wish_70 : decode cX6_wish 70 = .ok (.invokevirtual 80, 3) := by decide +kernel
theorem dX6_wish_73 : decode cX6_wish 73 = .ok (.ifCond .eq 5, 3) := by decide +kernel
theorem dX6_wish_76 : decode cX6_wish 76 = .ok (.iconst 0, 1) := by decide +kernel
theorem dX6_wish_77 : decode cX6_wish 77 = .ok (.ireturn, 1) := by decide +kernel
theorem dX6_wish_78 : decode cX6_wish 78 = .ok (.aload_n 0, 1) := by decide +kernel
theorem dX6_wish_79 : decode cX6_wish 79 = .ok (.getfield 45, 3) := by decide +kernel
theorem dX6_wish_82 : decode cX6_wish 82 = .ok (.aload_n 0, 1) := by decide +kernel
theorem dX6_wish_83 : decode cX6_wish 83 = .ok (.getfield 139, 3) := by decide +kernel
theorem dX6_wish_86 : decode cX6_wish 86 = .ok (.iload_n 1, 1) := by decide +kernel
theorem dX6_wish_87 : decode cX6_wish 87 = .ok (.iastore, 1) := by decide +kernel
theorem dX6_wish_88 : decode cX6_wish 88 = .ok (.aload_n 0, 1) := by decide +kernel
theorem dX6_wish_89 : decode cX6_wish 89 = .ok (.getfield 48, 3) := by decide +kernel
theorem dX6_wish_92 : decode cX6_wish 92 = .ok (.aload_n 0, 1) := by decide +kernel
theorem dX6_wish_93 : decode cX6_wish 93 = .ok (.getfield 139, 3) := by decide +kernel
theorem dX6_wish_96 : decode cX6_wish 96 = .ok (.iload_n 2, 1) := by decide +kernel
theorem dX6_wish_97 : decode cX6_wish 97 = .ok (.iastore, 1) := by decide +kernel
theorem dX6_wish_98 : decode cX6_wish 98 = .ok (.aload_n 0, 1) := by decide +kernel
theorem dX6_wish_99 : decode cX6_wish 99 = .ok (.getfield 51, 3) := by decide +kernel
theorem dX6_wish_102 : decode cX6_wish 102 = .ok (.aload_n 0, 1) := by decide +kernel
theorem dX6_wish_103 : decode cX6_wish 103 = .ok (.getfield 139, 3) := by decide +kernel
theorem dX6_wish_106 : decode cX6_wish 106 = .ok (.iload_n 3, 1) := by decide +kernel
theorem dX6_wish_107 : decode cX6_wish 107 = .ok (.iastore, 1) := by decide +kernel
theorem dX6_wish_108 : decode cX6_wish 108 = .ok (.aload_n 0, 1) := by decide +kernel
theorem dX6_wish_109 : decode cX6_wish 109 = .ok (.getfield 54, 3) := by decide +kernel
theorem dX6_wish_112 : decode cX6_wish 112 = .ok (.aload_n 0, 1) := by decide +kernel
theorem dX6_wish_113 : decode cX6_wish 113 = .ok (.getfield 139, 3) := by decide +kernel
theorem dX6_wish_116 : decode cX6_wish 116 = .ok (.iload 4, 2) := by decide +kernel
theorem dX6_wish_118 : decode cX6_wish 118 = .ok (.iastore, 1) := by decide +kernel
theorem dX6_wish_119 : decode cX6_wish 119 = .ok (.aload_n 0, 1) := by decide +kernel
theorem dX6_wish_120 : decode cX6_wish 120 = .ok (.dup, 1) := by decide +kernel
theorem dX6_wish_121 : decode cX6_wish 121 = .ok (.getfield 139, 3) := by decide +kernel
theorem dX6_wish_124 : decode cX6_wish 124 = .ok (.iconst 1, 1) := by decide +kernel
theorem dX6_wish_125 : decode cX6_wish 125 = .ok (.iadd, 1) := by decide +kernel
theorem dX6_wish_126 : decode cX6_wish 126 = .ok (.putfield 139, 3) := by decide +kernel
theorem dX6_wish_129 : decode cX6_wish 129 = .ok (.aload_n 0, 1) := by decide +kernel
theorem dX6_wish_130 : decode cX6_wish 130 = .ok (.getfield 139, 3) := by decide +kernel
theorem dX6_wish_133 : decode cX6_wish 133 = .ok (.iconst 1, 1) := by decide +kernel
theorem dX6_wish_134 : decode cX6_wish 134 = .ok (.isub, 1) := by decide +kernel
theorem dX6_wish_135 : decode cX6_wish 135 = .ok (.ireturn, 1) := by decide +kernel
set_option maxRecDepth 20000 in
theorem ggX6_differing_X6_in : GoodIn wsX6_differing wsX6_in := goodIn_r _ [12] (by decide +kernel) (by decide +kernel)
set_option maxRecDepth 20000 in
theorem gX6_differing_X6_in : GoodIn wsX6_differing (va_wsS RX6 73 yX6_in wsX6_in) := goodIn_app (goodIn_of _ (by decide +kernel)) ggX6_differing_X6_in
set_option maxRecDepth 20000 in
theorem ggX6_differing_X6_isDay : GoodIn wsX6_differing wsX6_isDay := goodIn_r _ [15, 9, 10, 11, 12] (by decide +kernel) (by decide +kernel)
set_option maxRecDepth 20000 in
theorem gX6_differing_X6_isDay : GoodIn wsX6_differing (va_wsS RX6 91 yX6_isDay wsX6_isDay) := goodIn_app (goodIn_of _ (by decide +kernel)) ggX6_differing_X6_isDay
set_option maxRecDepth 20000 in
theorem ggX6_differing_X6_refused : GoodIn wsX6_differing wsX6_refused := goodIn_r _ [19, 20, 60, 61, 62, 63, 64, 65, 66, 67, 68, 69, 70, 71, 72, 73, 74, 75, 76, 77, 78, 79, 80, 81, 82] (by decide +kernel) (by decide +kernel)
set_option maxRecDepth 20000 in
theorem gX6_differing_X6_refused : GoodIn wsX6_differing (wsV RX6 80 RX6 yX6_refused wsX6_refused) := goodIn_app (goodIn_of _ (by decide +kernel)) ggX6_differing_X6_refused
set_option maxRecDepth 20000 in
theorem ggX6_differing_X6_lay : GoodIn wsX6_differing wsX6_lay := goodIn_r _ [24, 2, 3, 25, 26, 27, 11, 28, 29, 30, 31, 32, 33, 34, 35, 36, 37, 4, 38, 39, 40, 41, 42, 43, 44, 45, 60, 61, 62, 63, 64, 65, 66, 67, 68, 69, 70, 71, 72, 73, 74, 75, 76, 77, 78, 79, 80, 81, 82] (by decide +kernel) (by decide +kernel)
set_option maxRecDepth 20000 in
theorem gX6_differing_X6_lay : GoodIn wsX6_differing (wsV RX6 108 RX6 yX6_lay wsX6_lay) := goodIn_app (goodIn_of _ (by decide +kernel)) ggX6_differing_X6_lay
set_option maxRecDepth 20000 in
theorem ggX6_differing_X6_valueOf : GoodIn wsX6_differing wsX6_valueOf := goodIn_r _ [49, 2, 3, 50, 51, 52, 53, 11, 54, 32, 30, 55, 56, 57, 58, 59, 60, 61, 62, 63, 64, 65, 66, 67, 68, 69, 70, 71, 72, 73, 74, 75, 76, 77, 78, 79, 80, 81, 82] (by decide +kernel) (by decide +kernel)
set_option maxRecDepth 20000 in
theorem gX6_differing_X6_valueOf : GoodIn wsX6_differing (wsV RX6 123 RX6 yX6_valueOf wsX6_valueOf) := goodIn_app (goodIn_of _ (by decide +kernel)) ggX6_differing_X6_valueOf
theorem dX6_differing_0 : decode cX6_differing 0 = .ok (.aload_n 0, 1) := by decide +kernel
theorem dX6_differing_1 : decode cX6_differing 1 = .ok (.iload_n 1, 1) := by decide +kernel
theorem dX6_differing_2 : decode cX6_differing 2 = .ok (.iconst 0, 1) := by decide +kernel
theorem dX6_differing_3 : decode cX6_differing 3 = .ok (.aload_n 0, 1) := by decide +kernel
theorem dX6_differing_4 : decode cX6_differing 4 = .ok (.getfield 139, 3) := by decide +kernel
theorem dX6_differing_7 : decode cX6_differing 7 = .ok (.iconst 1, 1) := by decide +kernel
theorem dX6_differing_8 : decode cX6_differing 8 = .ok (.isub, 1) := by decide +kernel
theorem dX6_differing_9 : decode cX6_differing 9 = .ok (.invokestatic 73, 3) := by decide +kernel
theorem dX6_differing_12 : decode cX6_differing 12 = .ok (.ifCond .ne 7, 3) := by decide +kernel
theorem dX6_differing_15 : decode cX6_differing 15 = .ok (.iconst 1, 1) := by decide +kernel
theorem dX6_differing_16 : decode cX6_differing 16 = .ok (.goto 15, 3) := by decide +kernel
theorem dX6_differing_19 : decode cX6_differing 19 = .ok (.iload_n 2, 1) := by decide +kernel
theorem dX6_differing_20 : decode cX6_differing 20 = .ok (.invokestatic 91, 3) := by decide +kernel
theorem dX6_differing_23 : decode cX6_differing 23 = .ok (.ifCond .eq 7, 3) := by decide +kernel
theorem dX6_differing_26 : decode cX6_differing 26 = .ok (.iconst 0, 1) := by decide +kernel
theorem dX6_differing_27 : decode cX6_differing 27 = .ok (.goto 4, 3) := by decide +kernel
theorem dX6_differing_30 : decode cX6_differing 30 = .ok (.iconst 2, 1) := by decide +kernel
theorem dX6_differing_31 : decode cX6_differing 31 = .ok (.invokevirtual 80, 3) := by decide +kernel
theorem dX6_differing_34 : decode cX6_differing 34 = .ok (.ifCond .eq 5, 3) := by decide +kernel
theorem dX6_differing_37 : decode cX6_differing 37 = .ok (.iconst 0, 1) := by decide +kernel
theorem dX6_differing_38 : decode cX6_differing 38 = .ok (.ireturn, 1) := by decide +kernel
theorem dX6_differing_39 : decode cX6_differing 39 = .ok (.aload_n 0, 1) := by decide +kernel
theorem dX6_differing_40 : decode cX6_differing 40 = .ok (.iload_n 2, 1) := by decide +kernel
theorem dX6_differing_41 : decode cX6_differing 41 = .ok (.invokevirtual 108, 3) := by decide +kernel
theorem dX6_differing_44 : decode cX6_differing 44 = .ok (.iconst 0, 1) := by decide +kernel
theorem dX6_differing_45 : decode cX6_differing 45 = .ok (.istore_n 3, 1) := by decide +kernel
theorem dX6_differing_46 : decode cX6_differing 46 = .ok (.iconst 0, 1) := by decide +kernel
theorem dX6_differing_47 : decode cX6_differing 47 = .ok (.istore 4, 2) := by decide +kernel
theorem dX6_differing_49 : decode cX6_differing 49 = .ok (.iload 4, 2) := by decide +kernel
theorem dX6_differing_51 : decode cX6_differing 51 = .ok (.aload_n 0, 1) := by decide +kernel
theorem dX6_differing_52 : decode cX6_differing 52 = .ok (.getfield 70, 3) := by decide +kernel
theorem dX6_differing_55 : decode cX6_differing 55 = .ok (.if_icmp .ge 125, 3) := by decide +kernel
theorem dX6_differing_58 : decode cX6_differing 58 = .ok (.iconst 0, 1) := by decide +kernel
theorem dX6_differing_59 : decode cX6_differing 59 = .ok (.istore 5, 2) := by decide +kernel
theorem dX6_differing_61 : decode cX6_differing 61 = .ok (.iconst 0, 1) := by decide +kernel
theorem dX6_differing_62 : decode cX6_differing 62 = .ok (.istore 6, 2) := by decide +kernel
theorem dX6_differing_64 : decode cX6_differing 64 = .ok (.iload 6, 2) := by decide +kernel
theorem dX6_differing_66 : decode cX6_differing 66 = .ok (.aload_n 0, 1) := by decide +kernel
theorem dX6_differing_67 : decode cX6_differing 67 = .ok (.getfield 70, 3) := by decide +kernel
theorem dX6_differing_70 : decode cX6_differing 70 = .ok (.if_icmp .ge 70, 3) := by decide +kernel
theorem dX6_differing_73 : decode cX6_differing 73 = .ok (.iload 5, 2) := by decide +kernel
theorem dX6_differing_75 : decode cX6_differing 75 = .ok (.ifCond .ne 52, 3) := by decide +kernel
theorem dX6_differing_78 : decode cX6_differing 78 = .ok (.aload_n 0, 1) := by decide +kernel
theorem dX6_differing_79 : decode cX6_differing 79 = .ok (.getfield 57, 3) := by decide +kernel
theorem dX6_differing_82 : decode cX6_differing 82 = .ok (.iload 4, 2) := by decide +kernel
theorem dX6_differing_84 : decode cX6_differing 84 = .ok (.iaload, 1) := by decide +kernel
theorem dX6_differing_85 : decode cX6_differing 85 = .ok (.iload 4, 2) := by decide +kernel
theorem dX6_differing_87 : decode cX6_differing 87 = .ok (.if_icmp .ne 44, 3) := by decide +kernel
theorem dX6_differing_90 : decode cX6_differing 90 = .ok (.aload_n 0, 1) := by decide +kernel
theorem dX6_differing_91 : decode cX6_differing 91 = .ok (.getfield 57, 3) := by decide +kernel
theorem dX6_differing_94 : decode cX6_differing 94 = .ok (.iload 6, 2) := by decide +kernel
theorem dX6_differing_96 : decode cX6_differing 96 = .ok (.iaload, 1) := by decide +kernel
theorem dX6_differing_97 : decode cX6_differing 97 = .ok (.iload 4, 2) := by decide +kernel
theorem dX6_differing_99 : decode cX6_differing 99 = .ok (.if_icmp .ne 32, 3) := by decide +kernel
theorem dX6_differing_102 : decode cX6_differing 102 = .ok (.aload_n 0, 1) := by decide +kernel
theorem dX6_differing_103 : decode cX6_differing 103 = .ok (.getfield 22, 3) := by decide +kernel
theorem dX6_differing_106 : decode cX6_differing 106 = .ok (.iconst 3, 1) := by decide +kernel
theorem dX6_differing_107 : decode cX6_differing 107 = .ok (.iload 6, 2) := by decide +kernel
theorem dX6_differing_109 : decode cX6_differing 109 = .ok (.imul, 1) := by decide +kernel
theorem dX6_differing_110 : decode cX6_differing 110 = .ok (.aload_n 0, 1) := by decide +kernel
theorem dX6_differing_111 : decode cX6_differing 111 = .ok (.getfield 45, 3) := by decide +kernel
theorem dX6_differing_114 : decode cX6_differing 114 = .ok (.iload_n 1, 1) := by decide +kernel
theorem dX6_differing_115 : decode cX6_differing 115 = .ok (.iaload, 1) := by decide +kernel
theorem dX6_differing_116 : decode cX6_differing 116 = .ok (.iadd, 1) := by decide +kernel
theorem dX6_differing_117 : decode cX6_differing 117 = .ok (.iaload, 1) := by decide +kernel
theorem dX6_differing_118 : decode cX6_differing 118 = .ok (.aload_n 0, 1) := by decide +kernel
theorem dX6_differing_119 : decode cX6_differing 119 = .ok (.getfield 48, 3) := by decide +kernel
theorem dX6_differing_122 : decode cX6_differing 122 = .ok (.iload_n 1, 1) := by decide +kernel
theorem dX6_differing_123 : decode cX6_differing 123 = .ok (.iaload, 1) := by decide +kernel
theorem dX6_differing_124 : decode cX6_differing 124 = .ok (.if_icmp .ne 7, 3) := by decide +kernel
theorem dX6_differing_127 : decode cX6_differing 127 = .ok (.iconst 1, 1) := by decide +kernel
theorem dX6_differing_128 : decode cX6_differing 128 = .ok (.goto 4, 3) := by decide +kernel
theorem dX6_differing_131 : decode cX6_differing 131 = .ok (.iconst 0, 1) := by decide +kernel
theorem dX6_differing_132 : decode cX6_differing 132 = .ok (.istore 5, 2) := by decide +kernel
theorem dX6_differing_134 : decode cX6_differing 134 = .ok (.iinc 6 1, 3) := by decide +kernel
theorem dX6_differing_137 : decode cX6_differing 137 = .ok (.goto (-73), 3) := by decide +kernel
theorem dX6_differing_140 : decode cX6_differing 140 = .ok (.iload_n 3, 1) := by decide +kernel
theorem dX6_differing_141 : decode cX6_differing 141 = .ok (.iload 5, 2) := by decide +kernel
theorem dX6_differing_143 : decode cX6_differing 143 = .ok (.ifCond .eq 28, 3) := by decide +kernel
theorem dX6_differing_146 : decode cX6_differing 146 = .ok (.aload_n 0, 1) := by decide +kernel
theorem dX6_differing_147 : decode cX6_differing 147 = .ok (.iload 4, 2) := by decide +kernel
theorem dX6_differing_149 : decode cX6_differing 149 = .ok (.aload_n 0, 1) := by decide +kernel
theorem dX6_differing_150 : decode cX6_differing 150 = .ok (.getfield 51, 3) := by decide +kernel
theorem dX6_differing_153 : decode cX6_differing 153 = .ok (.iload_n 1, 1) := by decide +kernel
theorem dX6_differing_154 : decode cX6_differing 154 = .ok (.iaload, 1) := by decide +kernel
theorem dX6_differing_155 : decode cX6_differing 155 = .ok (.invokevirtual 123, 3) := by decide +kernel
theorem dX6_differing_158 : decode cX6_differing 158 = .ok (.aload_n 0, 1) := by decide +kernel
theorem dX6_differing_159 : decode cX6_differing 159 = .ok (.getfield 54, 3) := by decide +kernel
theorem dX6_differing_162 : decode cX6_differing 162 = .ok (.iload_n 1, 1) := by decide +kernel
theorem dX6_differing_163 : decode cX6_differing 163 = .ok (.iaload, 1) := by decide +kernel
theorem dX6_differing_164 : decode cX6_differing 164 = .ok (.if_icmp .eq 7, 3) := by decide +kernel
theorem dX6_differing_167 : decode cX6_differing 167 = .ok (.iconst 1, 1) := by decide +kernel
theorem dX6_differing_168 : decode cX6_differing 168 = .ok (.goto 4, 3) := by decide +kernel
theorem dX6_differing_171 : decode cX6_differing 171 = .ok (.iconst 0, 1) := by decide +kernel
theorem dX6_differing_172 : decode cX6_differing 172 = .ok (.iadd, 1) := by decide +kernel
theorem dX6_differing_173 : decode cX6_differing 173 = .ok (.istore_n 3, 1) := by decide +kernel
theorem dX6_differing_174 : decode cX6_differing 174 = .ok (.iinc 4 1, 3) := by decide +kernel
theorem dX6_differing_177 : decode cX6_differing 177 = .ok (.goto (-128), 3) := by decide +kernel
theorem dX6_differing_180 : decode cX6_differing 180 = .ok (.iload_n 3, 1) := by decide +kernel
theorem dX6_differing_181 : decode cX6_differing 181 = .ok (.ireturn, 1) := by decide +kernel
set_option maxRecDepth 20000 in
theorem ggX6_changed_X6_in : GoodIn wsX6_changed wsX6_in := goodIn_r _ [7] (by decide +kernel) (by decide +kernel)
set_option maxRecDepth 20000 in
theorem gX6_changed_X6_in : GoodIn wsX6_changed (va_wsS RX6 73 yX6_in wsX6_in) := goodIn_app (goodIn_of _ (by decide +kernel)) ggX6_changed_X6_in
set_option maxRecDepth 20000 in
theorem ggX6_changed_X6_isDay : GoodIn wsX6_changed wsX6_isDay := goodIn_r _ [10, 4, 5, 6, 7] (by decide +kernel) (by decide +kernel)
set_option maxRecDepth 20000 in
theorem gX6_changed_X6_isDay : GoodIn wsX6_changed (va_wsS RX6 91 yX6_isDay wsX6_isDay) := goodIn_app (goodIn_of _ (by decide +kernel)) ggX6_changed_X6_isDay
set_option maxRecDepth 20000 in
theorem ggX6_changed_X6_refused : GoodIn wsX6_changed wsX6_refused := goodIn_r _ [14, 15, 56, 57, 58, 59, 60, 61, 62, 63, 64, 65, 66, 67, 68, 69, 70, 71, 72, 73, 74, 75, 76, 77, 78] (by decide +kernel) (by decide +kernel)
set_option maxRecDepth 20000 in
theorem gX6_changed_X6_refused : GoodIn wsX6_changed (wsV RX6 80 RX6 yX6_refused wsX6_refused) := goodIn_app (goodIn_of _ (by decide +kernel)) ggX6_changed_X6_refused
set_option maxRecDepth 20000 in
theorem ggX6_changed_X6_lay : GoodIn wsX6_changed wsX6_lay := goodIn_r _ [19, 1, 3, 20, 21, 22, 6, 23, 24, 25, 26, 27, 28, 29, 30, 31, 32, 33, 34, 35, 36, 37, 38, 39, 40, 41, 56, 57, 58, 59, 60, 61, 62, 63, 64, 65, 66, 67, 68, 69, 70, 71, 72, 73, 74, 75, 76, 77, 78] (by decide +kernel) (by decide +kernel)
set_option maxRecDepth 20000 in
theorem gX6_changed_X6_lay : GoodIn wsX6_changed (wsV RX6 108 RX6 yX6_lay wsX6_lay) := goodIn_app (goodIn_of _ (by decide +kernel)) ggX6_changed_X6_lay
set_option maxRecDepth 20000 in
theorem ggX6_changed_X6_valueOf : GoodIn wsX6_changed wsX6_valueOf := goodIn_r _ [45, 1, 3, 46, 47, 48, 49, 6, 50, 27, 25, 51, 52, 53, 54, 55, 56, 57, 58, 59, 60, 61, 62, 63, 64, 65, 66, 67, 68, 69, 70, 71, 72, 73, 74, 75, 76, 77, 78] (by decide +kernel) (by decide +kernel)
set_option maxRecDepth 20000 in
theorem gX6_changed_X6_valueOf : GoodIn wsX6_changed (wsV RX6 123 RX6 yX6_valueOf wsX6_valueOf) := goodIn_app (goodIn_of _ (by decide +kernel)) ggX6_changed_X6_valueOf
theorem dX6_changed_0 : decode cX6_changed 0 = .ok (.aload_n 0, 1) := by decide +kernel
theorem dX6_changed_1 : decode cX6_changed 1 = .ok (.iload_n 1, 1) := by decide +kernel
theorem dX6_changed_2 : decode cX6_changed 2 = .ok (.iconst 0, 1) := by decide +kernel
theorem dX6_changed_3 : decode cX6_changed 3 = .ok (.iconst 1, 1) := by decide +kernel
theorem dX6_changed_4 : decode cX6_changed 4 = .ok (.invokestatic 73, 3) := by decide +kernel
theorem dX6_changed_7 : decode cX6_changed 7 = .ok (.ifCond .eq 21, 3) := by decide +kernel
theorem dX6_changed_10 : decode cX6_changed 10 = .ok (.iload_n 2, 1) := by decide +kernel
theorem dX6_changed_11 : decode cX6_changed 11 = .ok (.invokestatic 91, 3) := by decide +kernel
theorem dX6_changed_14 : decode cX6_changed 14 = .ok (.ifCond .eq 14, 3) := by decide +kernel
theorem dX6_changed_17 : decode cX6_changed 17 = .ok (.iload_n 3, 1) := by decide +kernel
theorem dX6_changed_18 : decode cX6_changed 18 = .ok (.invokestatic 91, 3) := by decide +kernel
theorem dX6_changed_21 : decode cX6_changed 21 = .ok (.ifCond .eq 7, 3) := by decide +kernel
theorem dX6_changed_24 : decode cX6_changed 24 = .ok (.iconst 0, 1) := by decide +kernel
theorem dX6_changed_25 : decode cX6_changed 25 = .ok (.goto 4, 3) := by decide +kernel
theorem dX6_changed_28 : decode cX6_changed 28 = .ok (.iconst 1, 1) := by decide +kernel
theorem dX6_changed_29 : decode cX6_changed 29 = .ok (.invokevirtual 80, 3) := by decide +kernel
theorem dX6_changed_32 : decode cX6_changed 32 = .ok (.ifCond .eq 5, 3) := by decide +kernel
theorem dX6_changed_35 : decode cX6_changed 35 = .ok (.iconst 0, 1) := by decide +kernel
theorem dX6_changed_36 : decode cX6_changed 36 = .ok (.ireturn, 1) := by decide +kernel
theorem dX6_changed_37 : decode cX6_changed 37 = .ok (.aload_n 0, 1) := by decide +kernel
theorem dX6_changed_38 : decode cX6_changed 38 = .ok (.iload_n 2, 1) := by decide +kernel
theorem dX6_changed_39 : decode cX6_changed 39 = .ok (.invokevirtual 108, 3) := by decide +kernel
theorem dX6_changed_42 : decode cX6_changed 42 = .ok (.iconst 0, 1) := by decide +kernel
theorem dX6_changed_43 : decode cX6_changed 43 = .ok (.istore 4, 2) := by decide +kernel
theorem dX6_changed_45 : decode cX6_changed 45 = .ok (.iload 4, 2) := by decide +kernel
theorem dX6_changed_47 : decode cX6_changed 47 = .ok (.aload_n 0, 1) := by decide +kernel
theorem dX6_changed_48 : decode cX6_changed 48 = .ok (.getfield 70, 3) := by decide +kernel
theorem dX6_changed_51 : decode cX6_changed 51 = .ok (.if_icmp .ge 43, 3) := by decide +kernel
theorem dX6_changed_54 : decode cX6_changed 54 = .ok (.aload_n 0, 1) := by decide +kernel
theorem dX6_changed_55 : decode cX6_changed 55 = .ok (.getfield 60, 3) := by decide +kernel
theorem dX6_changed_58 : decode cX6_changed 58 = .ok (.iload 4, 2) := by decide +kernel
theorem dX6_changed_60 : decode cX6_changed 60 = .ok (.aload_n 0, 1) := by decide +kernel
theorem dX6_changed_61 : decode cX6_changed 61 = .ok (.getfield 57, 3) := by decide +kernel
theorem dX6_changed_64 : decode cX6_changed 64 = .ok (.iload 4, 2) := by decide +kernel
theorem dX6_changed_66 : decode cX6_changed 66 = .ok (.iaload, 1) := by decide +kernel
theorem dX6_changed_67 : decode cX6_changed 67 = .ok (.ifCond .ge 8, 3) := by decide +kernel
theorem dX6_changed_70 : decode cX6_changed 70 = .ok (.bipush (-2), 2) := by decide +kernel
theorem dX6_changed_72 : decode cX6_changed 72 = .ok (.goto 15, 3) := by decide +kernel
theorem dX6_changed_75 : decode cX6_changed 75 = .ok (.aload_n 0, 1) := by decide +kernel
theorem dX6_changed_76 : decode cX6_changed 76 = .ok (.aload_n 0, 1) := by decide +kernel
theorem dX6_changed_77 : decode cX6_changed 77 = .ok (.getfield 57, 3) := by decide +kernel
theorem dX6_changed_80 : decode cX6_changed 80 = .ok (.iload 4, 2) := by decide +kernel
theorem dX6_changed_82 : decode cX6_changed 82 = .ok (.iaload, 1) := by decide +kernel
theorem dX6_changed_83 : decode cX6_changed 83 = .ok (.iload_n 1, 1) := by decide +kernel
theorem dX6_changed_84 : decode cX6_changed 84 = .ok (.invokevirtual 123, 3) := by decide +kernel
theorem dX6_changed_87 : decode cX6_changed 87 = .ok (.iastore, 1) := by decide +kernel
theorem dX6_changed_88 : decode cX6_changed 88 = .ok (.iinc 4 1, 3) := by decide +kernel
theorem dX6_changed_91 : decode cX6_changed 91 = .ok (.goto (-46), 3) := by decide +kernel
theorem dX6_changed_94 : decode cX6_changed 94 = .ok (.aload_n 0, 1) := by decide +kernel
theorem dX6_changed_95 : decode cX6_changed 95 = .ok (.iload_n 3, 1) := by decide +kernel
theorem dX6_changed_96 : decode cX6_changed 96 = .ok (.invokevirtual 108, 3) := by decide +kernel
theorem dX6_changed_99 : decode cX6_changed 99 = .ok (.iconst 0, 1) := by decide +kernel
theorem dX6_changed_100 : decode cX6_changed 100 = .ok (.istore 4, 2) := by decide +kernel
theorem dX6_changed_102 : decode cX6_changed 102 = .ok (.iconst 0, 1) := by decide +kernel
theorem dX6_changed_103 : decode cX6_changed 103 = .ok (.istore 5, 2) := by decide +kernel
theorem dX6_changed_105 : decode cX6_changed 105 = .ok (.iload 5, 2) := by decide +kernel
theorem dX6_changed_107 : decode cX6_changed 107 = .ok (.aload_n 0, 1) := by decide +kernel
theorem dX6_changed_108 : decode cX6_changed 108 = .ok (.getfield 70, 3) := by decide +kernel
theorem dX6_changed_111 : decode cX6_changed 111 = .ok (.if_icmp .ge 63, 3) := by decide +kernel
theorem dX6_changed_114 : decode cX6_changed 114 = .ok (.iload 4, 2) := by decide +kernel
theorem dX6_changed_116 : decode cX6_changed 116 = .ok (.aload_n 0, 1) := by decide +kernel
theorem dX6_changed_117 : decode cX6_changed 117 = .ok (.getfield 57, 3) := by decide +kernel
theorem dX6_changed_120 : decode cX6_changed 120 = .ok (.iload 5, 2) := by decide +kernel
theorem dX6_changed_122 : decode cX6_changed 122 = .ok (.iaload, 1) := by decide +kernel
theorem dX6_changed_123 : decode cX6_changed 123 = .ok (.ifCond .lt 41, 3) := by decide +kernel
theorem dX6_changed_126 : decode cX6_changed 126 = .ok (.aload_n 0, 1) := by decide +kernel
theorem dX6_changed_127 : decode cX6_changed 127 = .ok (.getfield 60, 3) := by decide +kernel
theorem dX6_changed_130 : decode cX6_changed 130 = .ok (.iload 5, 2) := by decide +kernel
theorem dX6_changed_132 : decode cX6_changed 132 = .ok (.iaload, 1) := by decide +kernel
theorem dX6_changed_133 : decode cX6_changed 133 = .ok (.bipush (-2), 2) := by decide +kernel
theorem dX6_changed_135 : decode cX6_changed 135 = .ok (.if_icmp .le 29, 3) := by decide +kernel
theorem dX6_changed_138 : decode cX6_changed 138 = .ok (.aload_n 0, 1) := by decide +kernel
theorem dX6_changed_139 : decode cX6_changed 139 = .ok (.aload_n 0, 1) := by decide +kernel
theorem dX6_changed_140 : decode cX6_changed 140 = .ok (.getfield 57, 3) := by decide +kernel
theorem dX6_changed_143 : decode cX6_changed 143 = .ok (.iload 5, 2) := by decide +kernel
theorem dX6_changed_145 : decode cX6_changed 145 = .ok (.iaload, 1) := by decide +kernel
theorem dX6_changed_146 : decode cX6_changed 146 = .ok (.iload_n 1, 1) := by decide +kernel
theorem dX6_changed_147 : decode cX6_changed 147 = .ok (.invokevirtual 123, 3) := by decide +kernel
theorem dX6_changed_150 : decode cX6_changed 150 = .ok (.aload_n 0, 1) := by decide +kernel
theorem dX6_changed_151 : decode cX6_changed 151 = .ok (.getfield 60, 3) := by decide +kernel
theorem dX6_changed_154 : decode cX6_changed 154 = .ok (.iload 5, 2) := by decide +kernel
theorem dX6_changed_156 : decode cX6_changed 156 = .ok (.iaload, 1) := by decide +kernel
theorem dX6_changed_157 : decode cX6_changed 157 = .ok (.if_icmp .eq 7, 3) := by decide +kernel
theorem dX6_changed_160 : decode cX6_changed 160 = .ok (.iconst 1, 1) := by decide +kernel
theorem dX6_changed_161 : decode cX6_changed 161 = .ok (.goto 4, 3) := by decide +kernel
theorem dX6_changed_164 : decode cX6_changed 164 = .ok (.iconst 0, 1) := by decide +kernel
theorem dX6_changed_165 : decode cX6_changed 165 = .ok (.iadd, 1) := by decide +kernel
theorem dX6_changed_166 : decode cX6_changed 166 = .ok (.istore 4, 2) := by decide +kernel
theorem dX6_changed_168 : decode cX6_changed 168 = .ok (.iinc 5 1, 3) := by decide +kernel
theorem dX6_changed_171 : decode cX6_changed 171 = .ok (.goto (-66), 3) := by decide +kernel
theorem dX6_changed_174 : decode cX6_changed 174 = .ok (.iload 4, 2) := by decide +kernel
theorem dX6_changed_176 : decode cX6_changed 176 = .ok (.ireturn, 1) := by decide +kernel
theorem dJ9_max_7cf53_0 : decode cJ9_max_7cf53 0 = .ok (.iload_n 0, 1) := by decide +kernel
theorem dJ9_max_7cf53_1 : decode cJ9_max_7cf53 1 = .ok (.iload_n 1, 1) := by decide +kernel
theorem dJ9_max_7cf53_2 : decode cJ9_max_7cf53 2 = .ok (.if_icmp .lt 7, 3) := by decide +kernel
theorem dJ9_max_7cf53_5 : decode cJ9_max_7cf53 5 = .ok (.iload_n 0, 1) := by decide +kernel
theorem dJ9_max_7cf53_6 : decode cJ9_max_7cf53 6 = .ok (.goto 4, 3) := by decide +kernel
theorem dJ9_max_7cf53_9 : decode cJ9_max_7cf53 9 = .ok (.iload_n 1, 1) := by decide +kernel
theorem dJ9_max_7cf53_10 : decode cJ9_max_7cf53 10 = .ok (.ireturn, 1) := by decide +kernel
theorem dJ9_min_7cf53_0 : decode cJ9_min_7cf53 0 = .ok (.iload_n 0, 1) := by decide +kernel
theorem dJ9_min_7cf53_1 : decode cJ9_min_7cf53 1 = .ok (.iload_n 1, 1) := by decide +kernel
theorem dJ9_min_7cf53_2 : decode cJ9_min_7cf53 2 = .ok (.if_icmp .gt 7, 3) := by decide +kernel
theorem dJ9_min_7cf53_5 : decode cJ9_min_7cf53 5 = .ok (.iload_n 0, 1) := by decide +kernel
theorem dJ9_min_7cf53_6 : decode cJ9_min_7cf53 6 = .ok (.goto 4, 3) := by decide +kernel
theorem dJ9_min_7cf53_9 : decode cJ9_min_7cf53 9 = .ok (.iload_n 1, 1) := by decide +kernel
theorem dJ9_min_7cf53_10 : decode cJ9_min_7cf53 10 = .ok (.ireturn, 1) := by decide +kernel
set_option maxRecDepth 20000 in
theorem ggL_pass_X5_pass : GoodIn wsL_pass wsX5_pass := goodIn_ca (goodIn_ca (goodIn_r _ [7, 8, 9, 10, 11, 12, 6, 13, 14, 15, 16, 17, 18, 19, 20, 21, 22] (by decide +kernel) (by decide +kernel)) (goodIn_sub (fun _ h => List.mem_cons_of_mem _ (List.mem_append_left _ (List.mem_append_right _ h))) (by decide +kernel))) (goodIn_sub (fun _ h => List.mem_cons_of_mem _ (List.mem_append_right _ h)) (by decide +kernel))
set_option maxRecDepth 20000 in
theorem gL_pass_X5_pass : GoodIn wsL_pass (wsV RL 7 RX5 yX5_pass wsX5_pass) := goodIn_app (goodIn_of _ (by decide +kernel)) ggL_pass_X5_pass
theorem dL_pass_0 : decode cL_pass 0 = .ok (.aload_n 2, 1) := by decide +kernel
theorem dL_pass_1 : decode cL_pass 1 = .ok (.iconst 0, 1) := by decide +kernel
theorem dL_pass_2 : decode cL_pass 2 = .ok (.aload_n 0, 1) := by decide +kernel
theorem dL_pass_3 : decode cL_pass 3 = .ok (.iload_n 1, 1) := by decide +kernel
theorem dL_pass_4 : decode cL_pass 4 = .ok (.invokevirtual 7, 3) := by decide +kernel
theorem dL_pass_7 : decode cL_pass 7 = .ok (.i2l, 1) := by decide +kernel
theorem dL_pass_8 : decode cL_pass 8 = .ok (.lastore, 1) := by decide +kernel
theorem dL_pass_9 : decode cL_pass 9 = .ok (.goto 9, 3) := by decide +kernel
theorem dL_pass_12 : decode cL_pass 12 = .ok (.astore_n 3, 1) := by decide +kernel
theorem dL_pass_13 : decode cL_pass 13 = .ok (.iconst 1, 1) := by decide +kernel
theorem dL_pass_14 : decode cL_pass 14 = .ok (.ireturn, 1) := by decide +kernel
theorem dL_pass_15 : decode cL_pass 15 = .ok (.astore_n 3, 1) := by decide +kernel
theorem dL_pass_16 : decode cL_pass 16 = .ok (.iconst 2, 1) := by decide +kernel
theorem dL_pass_17 : decode cL_pass 17 = .ok (.ireturn, 1) := by decide +kernel
theorem dL_pass_18 : decode cL_pass 18 = .ok (.iconst 0, 1) := by decide +kernel
theorem dL_pass_19 : decode cL_pass 19 = .ok (.ireturn, 1) := by decide +kernel
set_option maxRecDepth 20000 in
theorem ggL_setTerm_X5_setTerm : GoodIn wsL_setTerm wsX5_setTerm := goodIn_ca (goodIn_r _ [6, 7, 8, 9, 10, 5, 11, 12, 13, 14, 15, 16, 17, 18, 19, 20, 21, 22] (by decide +kernel) (by decide +kernel)) (goodIn_sub (fun _ h => List.mem_cons_of_mem _ (List.mem_append_right _ h)) (by decide +kernel))
set_option maxRecDepth 20000 in
theorem gL_setTerm_X5_setTerm : GoodIn wsL_setTerm (wsV RL 17 RX5 yX5_setTerm wsX5_setTerm) := goodIn_app (goodIn_of _ (by decide +kernel)) ggL_setTerm_X5_setTerm
theorem dL_setTerm_0 : decode cL_setTerm 0 = .ok (.aload_n 3, 1) := by decide +kernel
theorem dL_setTerm_1 : decode cL_setTerm 1 = .ok (.iconst 0, 1) := by decide +kernel
theorem dL_setTerm_2 : decode cL_setTerm 2 = .ok (.aload_n 0, 1) := by decide +kernel
theorem dL_setTerm_3 : decode cL_setTerm 3 = .ok (.iload_n 1, 1) := by decide +kernel
theorem dL_setTerm_4 : decode cL_setTerm 4 = .ok (.iload_n 2, 1) := by decide +kernel
theorem dL_setTerm_5 : decode cL_setTerm 5 = .ok (.invokevirtual 17, 3) := by decide +kernel
theorem dL_setTerm_8 : decode cL_setTerm 8 = .ok (.i2l, 1) := by decide +kernel
theorem dL_setTerm_9 : decode cL_setTerm 9 = .ok (.lastore, 1) := by decide +kernel
theorem dL_setTerm_10 : decode cL_setTerm 10 = .ok (.goto 7, 3) := by decide +kernel
theorem dL_setTerm_13 : decode cL_setTerm 13 = .ok (.astore 4, 2) := by decide +kernel
theorem dL_setTerm_15 : decode cL_setTerm 15 = .ok (.iconst 1, 1) := by decide +kernel
theorem dL_setTerm_16 : decode cL_setTerm 16 = .ok (.ireturn, 1) := by decide +kernel
theorem dL_setTerm_17 : decode cL_setTerm 17 = .ok (.iconst 0, 1) := by decide +kernel
theorem dL_setTerm_18 : decode cL_setTerm 18 = .ok (.ireturn, 1) := by decide +kernel
set_option maxRecDepth 20000 in
theorem ggL_putFirst_X5_putFirst : GoodIn wsL_putFirst wsX5_putFirst := goodIn_ca (goodIn_r _ [6, 7, 8, 9, 5, 10, 11, 12, 13, 14, 15, 16, 17, 18, 19, 20, 21, 22, 23, 24, 25, 26, 27] (by decide +kernel) (by decide +kernel)) (goodIn_sub (fun _ h => List.mem_cons_of_mem _ (List.mem_append_right _ h)) (by decide +kernel))
set_option maxRecDepth 20000 in
theorem gL_putFirst_X5_putFirst : GoodIn wsL_putFirst (wsV RL 21 RX5 yX5_putFirst wsX5_putFirst) := goodIn_app (goodIn_of _ (by decide +kernel)) ggL_putFirst_X5_putFirst
theorem dL_putFirst_0 : decode cL_putFirst 0 = .ok (.aload_n 2, 1) := by decide +kernel
theorem dL_putFirst_1 : decode cL_putFirst 1 = .ok (.iconst 0, 1) := by decide +kernel
theorem dL_putFirst_2 : decode cL_putFirst 2 = .ok (.aload_n 0, 1) := by decide +kernel
theorem dL_putFirst_3 : decode cL_putFirst 3 = .ok (.iload_n 1, 1) := by decide +kernel
theorem dL_putFirst_4 : decode cL_putFirst 4 = .ok (.invokevirtual 21, 3) := by decide +kernel
theorem dL_putFirst_7 : decode cL_putFirst 7 = .ok (.i2l, 1) := by decide +kernel
theorem dL_putFirst_8 : decode cL_putFirst 8 = .ok (.lastore, 1) := by decide +kernel
theorem dL_putFirst_9 : decode cL_putFirst 9 = .ok (.goto 6, 3) := by decide +kernel
theorem dL_putFirst_12 : decode cL_putFirst 12 = .ok (.astore_n 3, 1) := by decide +kernel
theorem dL_putFirst_13 : decode cL_putFirst 13 = .ok (.iconst 1, 1) := by decide +kernel
theorem dL_putFirst_14 : decode cL_putFirst 14 = .ok (.ireturn, 1) := by decide +kernel
theorem dL_putFirst_15 : decode cL_putFirst 15 = .ok (.iconst 0, 1) := by decide +kernel
theorem dL_putFirst_16 : decode cL_putFirst 16 = .ok (.ireturn, 1) := by decide +kernel
set_option maxRecDepth 20000 in
theorem ggL_find_X5_find : GoodIn wsL_find wsX5_find := goodIn_ca (goodIn_ca (goodIn_r _ [7, 8, 9, 10, 11, 12, 13, 14, 6, 15, 16, 17, 18, 19, 20, 21, 22, 23, 24, 25, 26, 27, 28, 29, 30, 31, 32, 33, 34, 35, 36, 37, 38, 39, 40, 41, 42, 43, 44, 45, 46, 47, 48, 49] (by decide +kernel) (by decide +kernel)) (goodIn_sub (fun _ h => List.mem_cons_of_mem _ (List.mem_append_left _ (List.mem_append_right _ h))) (by decide +kernel))) (goodIn_sub (fun _ h => List.mem_cons_of_mem _ (List.mem_append_right _ h)) (by decide +kernel))
set_option maxRecDepth 20000 in
theorem gL_find_X5_find : GoodIn wsL_find (wsV RL 24 RX5 yX5_find wsX5_find) := goodIn_app (goodIn_of _ (by decide +kernel)) ggL_find_X5_find
theorem dL_find_0 : decode cL_find 0 = .ok (.aload 7, 2) := by decide +kernel
theorem dL_find_2 : decode cL_find 2 = .ok (.iconst 0, 1) := by decide +kernel
theorem dL_find_3 : decode cL_find 3 = .ok (.aload_n 0, 1) := by decide +kernel
theorem dL_find_4 : decode cL_find 4 = .ok (.iload_n 1, 1) := by decide +kernel
theorem dL_find_5 : decode cL_find 5 = .ok (.iload_n 2, 1) := by decide +kernel
theorem dL_find_6 : decode cL_find 6 = .ok (.iload_n 3, 1) := by decide +kernel
theorem dL_find_7 : decode cL_find 7 = .ok (.iload 4, 2) := by decide +kernel
theorem dL_find_9 : decode cL_find 9 = .ok (.iload 5, 2) := by decide +kernel
theorem dL_find_11 : decode cL_find 11 = .ok (.iload 6, 2) := by decide +kernel
theorem dL_find_13 : decode cL_find 13 = .ok (.invokevirtual 24, 3) := by decide +kernel
theorem dL_find_16 : decode cL_find 16 = .ok (.i2l, 1) := by decide +kernel
theorem dL_find_17 : decode cL_find 17 = .ok (.lastore, 1) := by decide +kernel
theorem dL_find_18 : decode cL_find 18 = .ok (.goto 11, 3) := by decide +kernel
theorem dL_find_21 : decode cL_find 21 = .ok (.astore 8, 2) := by decide +kernel
theorem dL_find_23 : decode cL_find 23 = .ok (.iconst 1, 1) := by decide +kernel
theorem dL_find_24 : decode cL_find 24 = .ok (.ireturn, 1) := by decide +kernel
theorem dL_find_25 : decode cL_find 25 = .ok (.astore 8, 2) := by decide +kernel
theorem dL_find_27 : decode cL_find 27 = .ok (.iconst 2, 1) := by decide +kernel
theorem dL_find_28 : decode cL_find 28 = .ok (.ireturn, 1) := by decide +kernel
theorem dL_find_29 : decode cL_find 29 = .ok (.iconst 0, 1) := by decide +kernel
theorem dL_find_30 : decode cL_find 30 = .ok (.ireturn, 1) := by decide +kernel
set_option maxRecDepth 20000 in
theorem ggL_strike_X5_strike : GoodIn wsL_strike wsX5_strike := goodIn_ca (goodIn_r _ [6, 7, 8, 9, 10, 11, 5, 12, 13, 14, 15, 16, 17, 18, 19, 20, 21, 22, 23, 24, 25, 26, 27, 28, 29] (by decide +kernel) (by decide +kernel)) (goodIn_sub (fun _ h => List.mem_cons_of_mem _ (List.mem_append_right _ h)) (by decide +kernel))
set_option maxRecDepth 20000 in
theorem gL_strike_X5_strike : GoodIn wsL_strike (wsV RL 28 RX5 yX5_strike wsX5_strike) := goodIn_app (goodIn_of _ (by decide +kernel)) ggL_strike_X5_strike
theorem dL_strike_0 : decode cL_strike 0 = .ok (.aload_n 2, 1) := by decide +kernel
theorem dL_strike_1 : decode cL_strike 1 = .ok (.iconst 0, 1) := by decide +kernel
theorem dL_strike_2 : decode cL_strike 2 = .ok (.aload_n 0, 1) := by decide +kernel
theorem dL_strike_3 : decode cL_strike 3 = .ok (.iload_n 1, 1) := by decide +kernel
theorem dL_strike_4 : decode cL_strike 4 = .ok (.invokevirtual 28, 3) := by decide +kernel
theorem dL_strike_7 : decode cL_strike 7 = .ok (.ifCond .eq 7, 3) := by decide +kernel
theorem dL_strike_10 : decode cL_strike 10 = .ok (.lconst 1, 1) := by decide +kernel
theorem dL_strike_11 : decode cL_strike 11 = .ok (.goto 4, 3) := by decide +kernel
theorem dL_strike_14 : decode cL_strike 14 = .ok (.lconst 0, 1) := by decide +kernel
theorem dL_strike_15 : decode cL_strike 15 = .ok (.lastore, 1) := by decide +kernel
theorem dL_strike_16 : decode cL_strike 16 = .ok (.goto 6, 3) := by decide +kernel
theorem dL_strike_19 : decode cL_strike 19 = .ok (.astore_n 3, 1) := by decide +kernel
theorem dL_strike_20 : decode cL_strike 20 = .ok (.iconst 1, 1) := by decide +kernel
theorem dL_strike_21 : decode cL_strike 21 = .ok (.ireturn, 1) := by decide +kernel
theorem dL_strike_22 : decode cL_strike 22 = .ok (.iconst 0, 1) := by decide +kernel
theorem dL_strike_23 : decode cL_strike 23 = .ok (.ireturn, 1) := by decide +kernel
set_option maxRecDepth 20000 in
theorem ggL_tell_X5_tell : GoodIn wsL_tell wsX5_tell := goodIn_ca (goodIn_ca (goodIn_r _ [7, 8, 9, 10, 11, 12, 6, 13, 14, 15, 16, 17, 18, 19, 20, 21, 22, 23, 24, 25, 26, 27, 28, 29, 30, 31, 32, 33, 34, 35, 36, 37, 38] (by decide +kernel) (by decide +kernel)) (goodIn_sub (fun _ h => List.mem_cons_of_mem _ (List.mem_append_left _ (List.mem_append_right _ h))) (by decide +kernel))) (goodIn_sub (fun _ h => List.mem_cons_of_mem _ (List.mem_append_right _ h)) (by decide +kernel))
set_option maxRecDepth 20000 in
theorem gL_tell_X5_tell : GoodIn wsL_tell (wsV RL 34 RX5 yX5_tell wsX5_tell) := goodIn_app (goodIn_of _ (by decide +kernel)) ggL_tell_X5_tell
theorem dL_tell_0 : decode cL_tell 0 = .ok (.aload 4, 2) := by decide +kernel
theorem dL_tell_2 : decode cL_tell 2 = .ok (.iconst 0, 1) := by decide +kernel
theorem dL_tell_3 : decode cL_tell 3 = .ok (.aload_n 0, 1) := by decide +kernel
theorem dL_tell_4 : decode cL_tell 4 = .ok (.iload_n 1, 1) := by decide +kernel
theorem dL_tell_5 : decode cL_tell 5 = .ok (.iload_n 2, 1) := by decide +kernel
theorem dL_tell_6 : decode cL_tell 6 = .ok (.iload_n 3, 1) := by decide +kernel
theorem dL_tell_7 : decode cL_tell 7 = .ok (.invokevirtual 34, 3) := by decide +kernel
theorem dL_tell_10 : decode cL_tell 10 = .ok (.i2l, 1) := by decide +kernel
theorem dL_tell_11 : decode cL_tell 11 = .ok (.lastore, 1) := by decide +kernel
theorem dL_tell_12 : decode cL_tell 12 = .ok (.goto 11, 3) := by decide +kernel
theorem dL_tell_15 : decode cL_tell 15 = .ok (.astore 5, 2) := by decide +kernel
theorem dL_tell_17 : decode cL_tell 17 = .ok (.iconst 1, 1) := by decide +kernel
theorem dL_tell_18 : decode cL_tell 18 = .ok (.ireturn, 1) := by decide +kernel
theorem dL_tell_19 : decode cL_tell 19 = .ok (.astore 5, 2) := by decide +kernel
theorem dL_tell_21 : decode cL_tell 21 = .ok (.iconst 2, 1) := by decide +kernel
theorem dL_tell_22 : decode cL_tell 22 = .ok (.ireturn, 1) := by decide +kernel
theorem dL_tell_23 : decode cL_tell 23 = .ok (.iconst 0, 1) := by decide +kernel
theorem dL_tell_24 : decode cL_tell 24 = .ok (.ireturn, 1) := by decide +kernel
set_option maxRecDepth 20000 in
theorem ggL_counts_X5_counts : GoodIn wsL_counts wsX5_counts := goodIn_ca (goodIn_ca (goodIn_r _ [7, 8, 9, 10, 11, 12, 6, 13, 14, 15, 16, 17, 18, 19, 20, 21, 22, 23, 24, 25, 26, 27, 28, 29, 30, 31, 32, 33, 34, 35, 36, 37, 38, 39, 40, 41, 42, 43, 44, 45, 46, 47, 48, 49] (by decide +kernel) (by decide +kernel)) (goodIn_sub (fun _ h => List.mem_cons_of_mem _ (List.mem_append_left _ (List.mem_append_right _ h))) (by decide +kernel))) (goodIn_sub (fun _ h => List.mem_cons_of_mem _ (List.mem_append_right _ h)) (by decide +kernel))
set_option maxRecDepth 20000 in
theorem gL_counts_X5_counts : GoodIn wsL_counts (wsV RL 38 RX5 yX5_counts wsX5_counts) := goodIn_app (goodIn_of _ (by decide +kernel)) ggL_counts_X5_counts
theorem dL_counts_0 : decode cL_counts 0 = .ok (.aload_n 3, 1) := by decide +kernel
theorem dL_counts_1 : decode cL_counts 1 = .ok (.iconst 0, 1) := by decide +kernel
theorem dL_counts_2 : decode cL_counts 2 = .ok (.aload_n 0, 1) := by decide +kernel
theorem dL_counts_3 : decode cL_counts 3 = .ok (.iload_n 1, 1) := by decide +kernel
theorem dL_counts_4 : decode cL_counts 4 = .ok (.iload_n 2, 1) := by decide +kernel
theorem dL_counts_5 : decode cL_counts 5 = .ok (.invokevirtual 38, 3) := by decide +kernel
theorem dL_counts_8 : decode cL_counts 8 = .ok (.ifCond .eq 7, 3) := by decide +kernel
theorem dL_counts_11 : decode cL_counts 11 = .ok (.lconst 1, 1) := by decide +kernel
theorem dL_counts_12 : decode cL_counts 12 = .ok (.goto 4, 3) := by decide +kernel
theorem dL_counts_15 : decode cL_counts 15 = .ok (.lconst 0, 1) := by decide +kernel
theorem dL_counts_16 : decode cL_counts 16 = .ok (.lastore, 1) := by decide +kernel
theorem dL_counts_17 : decode cL_counts 17 = .ok (.goto 11, 3) := by decide +kernel
theorem dL_counts_20 : decode cL_counts 20 = .ok (.astore 4, 2) := by decide +kernel
theorem dL_counts_22 : decode cL_counts 22 = .ok (.iconst 1, 1) := by decide +kernel
theorem dL_counts_23 : decode cL_counts 23 = .ok (.ireturn, 1) := by decide +kernel
theorem dL_counts_24 : decode cL_counts 24 = .ok (.astore 4, 2) := by decide +kernel
theorem dL_counts_26 : decode cL_counts 26 = .ok (.iconst 2, 1) := by decide +kernel
theorem dL_counts_27 : decode cL_counts 27 = .ok (.ireturn, 1) := by decide +kernel
theorem dL_counts_28 : decode cL_counts 28 = .ok (.iconst 0, 1) := by decide +kernel
theorem dL_counts_29 : decode cL_counts 29 = .ok (.ireturn, 1) := by decide +kernel
set_option maxRecDepth 20000 in
theorem ggL_things_X5_things : GoodIn wsL_things wsX5_things := goodIn_ca (goodIn_r _ [6, 7, 8, 9, 10, 11, 5, 12, 13, 14, 15, 16, 17, 18, 19, 20, 21, 22, 23, 24, 25, 26, 27, 28, 29, 30, 31, 32, 33, 34, 35, 36, 37, 38, 39, 40, 41, 42, 43, 44, 45, 46, 47, 48, 49, 50, 51, 52, 53, 54, 55, 56, 57, 58, 59, 60, 61, 62, 63, 64, 65, 66, 67, 68, 69, 70, 71, 72, 73, 74, 75, 76, 77, 78, 79, 80, 81, 82, 83, 84, 85, 86, 87] (by decide +kernel) (by decide +kernel)) (goodIn_sub (fun _ h => List.mem_cons_of_mem _ (List.mem_append_right _ h)) (by decide +kernel))
set_option maxRecDepth 20000 in
theorem gL_things_X5_things : GoodIn wsL_things (wsV RL 42 RX5 yX5_things wsX5_things) := goodIn_app (goodIn_of _ (by decide +kernel)) ggL_things_X5_things
theorem dL_things_0 : decode cL_things 0 = .ok (.aload_n 2, 1) := by decide +kernel
theorem dL_things_1 : decode cL_things 1 = .ok (.iconst 0, 1) := by decide +kernel
theorem dL_things_2 : decode cL_things 2 = .ok (.aload_n 0, 1) := by decide +kernel
theorem dL_things_3 : decode cL_things 3 = .ok (.iload_n 1, 1) := by decide +kernel
theorem dL_things_4 : decode cL_things 4 = .ok (.invokevirtual 42, 3) := by decide +kernel
theorem dL_things_7 : decode cL_things 7 = .ok (.i2l, 1) := by decide +kernel
theorem dL_things_8 : decode cL_things 8 = .ok (.lastore, 1) := by decide +kernel
theorem dL_things_9 : decode cL_things 9 = .ok (.goto 6, 3) := by decide +kernel
theorem dL_things_12 : decode cL_things 12 = .ok (.astore_n 3, 1) := by decide +kernel
theorem dL_things_13 : decode cL_things 13 = .ok (.iconst 1, 1) := by decide +kernel
theorem dL_things_14 : decode cL_things 14 = .ok (.ireturn, 1) := by decide +kernel
theorem dL_things_15 : decode cL_things 15 = .ok (.iconst 0, 1) := by decide +kernel
theorem dL_things_16 : decode cL_things 16 = .ok (.ireturn, 1) := by decide +kernel
set_option maxRecDepth 20000 in
theorem ggL_thingOf_X5_thingOf : GoodIn wsL_thingOf wsX5_thingOf := goodIn_ca (goodIn_ca (goodIn_ca (goodIn_r _ [8, 9, 10, 11, 12, 13, 7, 14, 15, 16, 17, 18, 19, 20, 21, 22, 23, 24, 25, 26, 27, 28, 29, 30, 31, 32, 33, 34, 35, 36, 37, 38, 39, 40, 41, 42, 43, 44, 45, 46, 47, 48, 49, 50, 51, 52, 53, 54, 55, 56, 57, 58, 59, 60, 61, 62, 63, 64, 65, 66, 67, 68, 69, 70, 71, 72, 73, 74, 75, 76, 77, 78, 79, 80, 81, 82, 83, 84, 85, 86, 87, 88, 89, 90, 91, 92, 93, 94, 95, 96, 97, 98] (by decide +kernel) (by decide +kernel)) (goodIn_sub (fun _ h => List.mem_cons_of_mem _ (List.mem_append_left _ (List.mem_append_left _ (List.mem_append_right _ h)))) (by decide +kernel))) (goodIn_sub (fun _ h => List.mem_cons_of_mem _ (List.mem_append_left _ (List.mem_append_right _ h))) (by decide +kernel))) (goodIn_sub (fun _ h => List.mem_cons_of_mem _ (List.mem_append_right _ h)) (by decide +kernel))
set_option maxRecDepth 20000 in
theorem gL_thingOf_X5_thingOf : GoodIn wsL_thingOf (wsV RL 45 RX5 yX5_thingOf wsX5_thingOf) := goodIn_app (goodIn_of _ (by decide +kernel)) ggL_thingOf_X5_thingOf
theorem dL_thingOf_0 : decode cL_thingOf 0 = .ok (.aload_n 3, 1) := by decide +kernel
theorem dL_thingOf_1 : decode cL_thingOf 1 = .ok (.iconst 0, 1) := by decide +kernel
theorem dL_thingOf_2 : decode cL_thingOf 2 = .ok (.aload_n 0, 1) := by decide +kernel
theorem dL_thingOf_3 : decode cL_thingOf 3 = .ok (.iload_n 1, 1) := by decide +kernel
theorem dL_thingOf_4 : decode cL_thingOf 4 = .ok (.iload_n 2, 1) := by decide +kernel
theorem dL_thingOf_5 : decode cL_thingOf 5 = .ok (.invokevirtual 45, 3) := by decide +kernel
theorem dL_thingOf_8 : decode cL_thingOf 8 = .ok (.i2l, 1) := by decide +kernel
theorem dL_thingOf_9 : decode cL_thingOf 9 = .ok (.lastore, 1) := by decide +kernel
theorem dL_thingOf_10 : decode cL_thingOf 10 = .ok (.goto 15, 3) := by decide +kernel
theorem dL_thingOf_13 : decode cL_thingOf 13 = .ok (.astore 4, 2) := by decide +kernel
theorem dL_thingOf_15 : decode cL_thingOf 15 = .ok (.iconst 1, 1) := by decide +kernel
theorem dL_thingOf_16 : decode cL_thingOf 16 = .ok (.ireturn, 1) := by decide +kernel
theorem dL_thingOf_17 : decode cL_thingOf 17 = .ok (.astore 4, 2) := by decide +kernel
theorem dL_thingOf_19 : decode cL_thingOf 19 = .ok (.iconst 2, 1) := by decide +kernel
theorem dL_thingOf_20 : decode cL_thingOf 20 = .ok (.ireturn, 1) := by decide +kernel
theorem dL_thingOf_21 : decode cL_thingOf 21 = .ok (.astore 4, 2) := by decide +kernel
theorem dL_thingOf_23 : decode cL_thingOf 23 = .ok (.iconst 3, 1) := by decide +kernel
theorem dL_thingOf_24 : decode cL_thingOf 24 = .ok (.ireturn, 1) := by decide +kernel
theorem dL_thingOf_25 : decode cL_thingOf 25 = .ok (.iconst 0, 1) := by decide +kernel
theorem dL_thingOf_26 : decode cL_thingOf 26 = .ok (.ireturn, 1) := by decide +kernel
set_option maxRecDepth 20000 in
theorem ggL_value_X5_value : GoodIn wsL_value wsX5_value := goodIn_ca (goodIn_ca (goodIn_ca (goodIn_r _ [8, 9, 10, 11, 12, 13, 7, 14, 15, 16, 17, 18, 19, 20, 21, 22, 23, 24, 25, 26, 27, 28, 29, 30, 31, 32, 33, 34, 35, 36, 37, 38, 39, 40, 41, 42, 43, 44, 45, 46, 47, 48, 49, 50, 51, 52, 53, 54, 55, 56, 57, 58, 59, 60, 61, 62, 63, 64, 65, 66, 67, 68, 69, 70, 71, 72, 73, 74, 75, 76, 77, 78, 79, 80, 81, 82, 83, 84, 85, 86, 87, 88, 89, 90, 91, 92, 93, 94, 95, 96, 97, 98, 99, 100, 101, 102, 103, 104, 105, 106, 107, 108, 109, 110, 111, 112, 113, 114, 115, 116] (by decide +kernel) (by decide +kernel)) (goodIn_sub (fun _ h => List.mem_cons_of_mem _ (List.mem_append_left _ (List.mem_append_left _ (List.mem_append_right _ h)))) (by decide +kernel))) (goodIn_sub (fun _ h => List.mem_cons_of_mem _ (List.mem_append_left _ (List.mem_append_right _ h))) (by decide +kernel))) (goodIn_sub (fun _ h => List.mem_cons_of_mem _ (List.mem_append_right _ h)) (by decide +kernel))
set_option maxRecDepth 20000 in
theorem gL_value_X5_value : GoodIn wsL_value (wsV RL 50 RX5 yX5_value wsX5_value) := goodIn_app (goodIn_of _ (by decide +kernel)) ggL_value_X5_value
theorem dL_value_0 : decode cL_value 0 = .ok (.aload 4, 2) := by decide +kernel
theorem dL_value_2 : decode cL_value 2 = .ok (.iconst 0, 1) := by decide +kernel
theorem dL_value_3 : decode cL_value 3 = .ok (.aload_n 0, 1) := by decide +kernel
theorem dL_value_4 : decode cL_value 4 = .ok (.iload_n 1, 1) := by decide +kernel
theorem dL_value_5 : decode cL_value 5 = .ok (.iload_n 2, 1) := by decide +kernel
theorem dL_value_6 : decode cL_value 6 = .ok (.iload_n 3, 1) := by decide +kernel
theorem dL_value_7 : decode cL_value 7 = .ok (.invokevirtual 50, 3) := by decide +kernel
theorem dL_value_10 : decode cL_value 10 = .ok (.i2l, 1) := by decide +kernel
theorem dL_value_11 : decode cL_value 11 = .ok (.lastore, 1) := by decide +kernel
theorem dL_value_12 : decode cL_value 12 = .ok (.goto 15, 3) := by decide +kernel
theorem dL_value_15 : decode cL_value 15 = .ok (.astore 5, 2) := by decide +kernel
theorem dL_value_17 : decode cL_value 17 = .ok (.iconst 1, 1) := by decide +kernel
theorem dL_value_18 : decode cL_value 18 = .ok (.ireturn, 1) := by decide +kernel
theorem dL_value_19 : decode cL_value 19 = .ok (.astore 5, 2) := by decide +kernel
theorem dL_value_21 : decode cL_value 21 = .ok (.iconst 2, 1) := by decide +kernel
theorem dL_value_22 : decode cL_value 22 = .ok (.ireturn, 1) := by decide +kernel
theorem dL_value_23 : decode cL_value 23 = .ok (.astore 5, 2) := by decide +kernel
theorem dL_value_25 : decode cL_value 25 = .ok (.iconst 3, 1) := by decide +kernel
theorem dL_value_26 : decode cL_value 26 = .ok (.ireturn, 1) := by decide +kernel
theorem dL_value_27 : decode cL_value 27 = .ok (.iconst 0, 1) := by decide +kernel
theorem dL_value_28 : decode cL_value 28 = .ok (.ireturn, 1) := by decide +kernel
set_option maxRecDepth 20000 in
theorem ggL_disputed_X5_disputed : GoodIn wsL_disputed wsX5_disputed := goodIn_ca (goodIn_r _ [6, 7, 8, 9, 10, 11, 5, 12, 13, 14, 15, 16, 17, 18, 19, 20, 21, 22, 23, 24, 25, 26, 27, 28, 29, 30, 31, 32, 33, 34, 35, 36, 37, 38, 39, 40, 41, 42, 43, 44, 45, 46, 47, 48, 49, 50, 51, 52, 53, 54, 55, 56, 57, 58, 59, 60, 61, 62, 63, 64, 65, 66, 67, 68, 69, 70, 71, 72, 73, 74, 75, 76, 77, 78, 79, 80, 81, 82, 83, 84, 85, 86, 87, 88, 89, 90, 91, 92, 93, 94, 95, 96, 97, 98, 99] (by decide +kernel) (by decide +kernel)) (goodIn_sub (fun _ h => List.mem_cons_of_mem _ (List.mem_append_right _ h)) (by decide +kernel))
set_option maxRecDepth 20000 in
theorem gL_disputed_X5_disputed : GoodIn wsL_disputed (wsV RL 53 RX5 yX5_disputed wsX5_disputed) := goodIn_app (goodIn_of _ (by decide +kernel)) ggL_disputed_X5_disputed
theorem dL_disputed_0 : decode cL_disputed 0 = .ok (.aload_n 3, 1) := by decide +kernel
theorem dL_disputed_1 : decode cL_disputed 1 = .ok (.iconst 0, 1) := by decide +kernel
theorem dL_disputed_2 : decode cL_disputed 2 = .ok (.aload_n 0, 1) := by decide +kernel
theorem dL_disputed_3 : decode cL_disputed 3 = .ok (.iload_n 1, 1) := by decide +kernel
theorem dL_disputed_4 : decode cL_disputed 4 = .ok (.iload_n 2, 1) := by decide +kernel
theorem dL_disputed_5 : decode cL_disputed 5 = .ok (.invokevirtual 53, 3) := by decide +kernel
theorem dL_disputed_8 : decode cL_disputed 8 = .ok (.i2l, 1) := by decide +kernel
theorem dL_disputed_9 : decode cL_disputed 9 = .ok (.lastore, 1) := by decide +kernel
theorem dL_disputed_10 : decode cL_disputed 10 = .ok (.goto 7, 3) := by decide +kernel
theorem dL_disputed_13 : decode cL_disputed 13 = .ok (.astore 4, 2) := by decide +kernel
theorem dL_disputed_15 : decode cL_disputed 15 = .ok (.iconst 1, 1) := by decide +kernel
theorem dL_disputed_16 : decode cL_disputed 16 = .ok (.ireturn, 1) := by decide +kernel
theorem dL_disputed_17 : decode cL_disputed 17 = .ok (.iconst 0, 1) := by decide +kernel
theorem dL_disputed_18 : decode cL_disputed 18 = .ok (.ireturn, 1) := by decide +kernel
set_option maxRecDepth 20000 in
theorem ggL_link_X5_link : GoodIn wsL_link wsX5_link := goodIn_ca (goodIn_ca (goodIn_ca (goodIn_r _ [8, 9, 10, 11, 12, 13, 14, 15, 7, 16, 17, 18, 19, 20, 21, 22, 23, 24, 25, 26, 27, 28, 29, 30, 31, 32, 33, 34, 35, 36, 37, 38, 39, 40, 41, 42, 43, 44, 45, 46, 47, 48, 49, 50, 51, 52, 53, 54, 55, 56] (by decide +kernel) (by decide +kernel)) (goodIn_sub (fun _ h => List.mem_cons_of_mem _ (List.mem_append_left _ (List.mem_append_left _ (List.mem_append_right _ h)))) (by decide +kernel))) (goodIn_sub (fun _ h => List.mem_cons_of_mem _ (List.mem_append_left _ (List.mem_append_right _ h))) (by decide +kernel))) (goodIn_sub (fun _ h => List.mem_cons_of_mem _ (List.mem_append_right _ h)) (by decide +kernel))
set_option maxRecDepth 20000 in
theorem gL_link_X5_link : GoodIn wsL_link (wsV RL 56 RX5 yX5_link wsX5_link) := goodIn_app (goodIn_of _ (by decide +kernel)) ggL_link_X5_link
theorem dL_link_0 : decode cL_link 0 = .ok (.aload 4, 2) := by decide +kernel
theorem dL_link_2 : decode cL_link 2 = .ok (.iconst 0, 1) := by decide +kernel
theorem dL_link_3 : decode cL_link 3 = .ok (.aload_n 0, 1) := by decide +kernel
theorem dL_link_4 : decode cL_link 4 = .ok (.iload_n 1, 1) := by decide +kernel
theorem dL_link_5 : decode cL_link 5 = .ok (.iload_n 2, 1) := by decide +kernel
theorem dL_link_6 : decode cL_link 6 = .ok (.iload_n 3, 1) := by decide +kernel
theorem dL_link_7 : decode cL_link 7 = .ok (.invokevirtual 56, 3) := by decide +kernel
theorem dL_link_10 : decode cL_link 10 = .ok (.i2l, 1) := by decide +kernel
theorem dL_link_11 : decode cL_link 11 = .ok (.lastore, 1) := by decide +kernel
theorem dL_link_12 : decode cL_link 12 = .ok (.goto 15, 3) := by decide +kernel
theorem dL_link_15 : decode cL_link 15 = .ok (.astore 5, 2) := by decide +kernel
theorem dL_link_17 : decode cL_link 17 = .ok (.iconst 1, 1) := by decide +kernel
theorem dL_link_18 : decode cL_link 18 = .ok (.ireturn, 1) := by decide +kernel
theorem dL_link_19 : decode cL_link 19 = .ok (.astore 5, 2) := by decide +kernel
theorem dL_link_21 : decode cL_link 21 = .ok (.iconst 2, 1) := by decide +kernel
theorem dL_link_22 : decode cL_link 22 = .ok (.ireturn, 1) := by decide +kernel
theorem dL_link_23 : decode cL_link 23 = .ok (.astore 5, 2) := by decide +kernel
theorem dL_link_25 : decode cL_link 25 = .ok (.iconst 3, 1) := by decide +kernel
