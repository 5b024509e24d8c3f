theorem dX5_value_0 : decode cX5_value 0 = .ok (.aload_n 0, 1) := by decide +kernel
theorem dX5_value_1 : decode cX5_value 1 = .ok (.iload_n 1, 1) := by decide +kernel
theorem dX5_value_2 : decode cX5_value 2 = .ok (.invokevirtual 88, 3) := by decide +kernel
theorem dX5_value_5 : decode cX5_value 5 = .ok (.iload_n 2, 1) := by decide +kernel
theorem dX5_value_6 : decode cX5_value 6 = .ok (.invokestatic 124, 3) := by decide +kernel
theorem dX5_value_9 : decode cX5_value 9 = .ok (.iload_n 3, 1) := by decide +kernel
theorem dX5_value_10 : decode cX5_value 10 = .ok (.invokestatic 104, 3) := by decide +kernel
theorem dX5_value_13 : decode cX5_value 13 = .ok (.aload_n 0, 1) := by decide +kernel
theorem dX5_value_14 : decode cX5_value 14 = .ok (.getfield 46, 3) := by decide +kernel
theorem dX5_value_17 : decode cX5_value 17 = .ok (.iload_n 3, 1) := by decide +kernel
theorem dX5_value_18 : decode cX5_value 18 = .ok (.invokevirtual 111, 3) := by decide +kernel
theorem dX5_value_21 : decode cX5_value 21 = .ok (.aload_n 0, 1) := by decide +kernel
theorem dX5_value_22 : decode cX5_value 22 = .ok (.iload_n 1, 1) := by decide +kernel
theorem dX5_value_23 : decode cX5_value 23 = .ok (.invokevirtual 118, 3) := by decide +kernel
theorem dX5_value_26 : decode cX5_value 26 = .ok (.aload_n 0, 1) := by decide +kernel
theorem dX5_value_27 : decode cX5_value 27 = .ok (.getfield 46, 3) := by decide +kernel
theorem dX5_value_30 : decode cX5_value 30 = .ok (.aload_n 0, 1) := by decide +kernel
theorem dX5_value_31 : decode cX5_value 31 = .ok (.getfield 46, 3) := by decide +kernel
theorem dX5_value_34 : decode cX5_value 34 = .ok (.getfield 121, 3) := by decide +kernel
theorem dX5_value_37 : decode cX5_value 37 = .ok (.iload_n 1, 1) := by decide +kernel
theorem dX5_value_38 : decode cX5_value 38 = .ok (.iaload, 1) := by decide +kernel
theorem dX5_value_39 : decode cX5_value 39 = .ok (.iload_n 2, 1) := by decide +kernel
theorem dX5_value_40 : decode cX5_value 40 = .ok (.invokevirtual 127, 3) := by decide +kernel
theorem dX5_value_43 : decode cX5_value 43 = .ok (.ireturn, 1) := by decide +kernel
set_option maxRecDepth 20000 in
theorem ggX5_disputed_X5_requireAttribute : GoodIn wsX5_disputed wsX5_requireAttribute := goodIn_ca (goodIn_r _ [7, 8, 9, 6, 10, 11, 12] (by decide +kernel) (by decide +kernel)) (goodIn_sub (fun _ h => List.mem_cons_of_mem _ (List.mem_append_right _ h)) (by decide +kernel))
set_option maxRecDepth 20000 in
theorem gX5_disputed_X5_requireAttribute : GoodIn wsX5_disputed (va_wsS RX5 124 yX5_requireAttribute wsX5_requireAttribute) := goodIn_app (goodIn_of _ (by decide +kernel)) ggX5_disputed_X5_requireAttribute
set_option maxRecDepth 20000 in
theorem ggX5_disputed_X5_requireDay : GoodIn wsX5_disputed wsX5_requireDay := goodIn_ca (goodIn_r _ [15, 8, 9, 6, 10, 11, 12] (by decide +kernel) (by decide +kernel)) (goodIn_sub (fun _ h => List.mem_cons_of_mem _ (List.mem_append_right _ h)) (by decide +kernel))
set_option maxRecDepth 20000 in
theorem gX5_disputed_X5_requireDay : GoodIn wsX5_disputed (va_wsS RX5 104 yX5_requireDay wsX5_requireDay) := goodIn_app (goodIn_of _ (by decide +kernel)) ggX5_disputed_X5_requireDay
set_option maxRecDepth 20000 in
theorem ggX5_disputed_X3_sortFor : GoodIn wsX5_disputed wsX3_sortFor := goodIn_r _ [20, 21, 22, 23, 24, 25, 26, 27, 28, 29, 30, 31, 32, 33, 34, 35, 36, 19, 37, 38, 39, 40, 41, 42, 43, 44, 45, 46, 47, 48, 49, 50, 51, 52, 53, 54, 55, 56, 57, 58, 59, 60, 61, 62, 90, 91, 92, 83, 84, 85, 86, 87, 88, 89, 93, 94] (by decide +kernel) (by decide +kernel)
set_option maxRecDepth 20000 in
theorem gX5_disputed_X3_sortFor : GoodIn wsX5_disputed (wsV RX5 111 RX3 yX3_sortFor wsX3_sortFor) := goodIn_app (goodIn_of _ (by decide +kernel)) ggX5_disputed_X3_sortFor
set_option maxRecDepth 20000 in
theorem ggX5_disputed_X3_isThing : GoodIn wsX5_disputed wsX3_isThing := goodIn_r _ [66, 23, 90, 91, 92] (by decide +kernel) (by decide +kernel)
set_option maxRecDepth 20000 in
theorem gX5_disputed_X3_isThing : GoodIn wsX5_disputed (wsV RX5 114 RX3 yX3_isThing wsX3_isThing) := goodIn_app (goodIn_of _ (by decide +kernel)) ggX5_disputed_X3_isThing
set_option maxRecDepth 20000 in
theorem ggX5_disputed_X3_hasUnlikeValues : GoodIn wsX5_disputed wsX3_hasUnlikeValues := goodIn_r _ [70, 21, 22, 71, 72, 73, 74, 19, 75, 23, 90, 91, 92, 83, 84, 85, 86, 87, 88, 89] (by decide +kernel) (by decide +kernel)
set_option maxRecDepth 20000 in
theorem gX5_disputed_X3_hasUnlikeValues : GoodIn wsX5_disputed (wsV RX5 130 RX3 yX3_hasUnlikeValues wsX3_hasUnlikeValues) := goodIn_app (goodIn_of _ (by decide +kernel)) ggX5_disputed_X3_hasUnlikeValues
theorem dX5_disputed_0 : decode cX5_disputed 0 = .ok (.iload_n 1, 1) := by decide +kernel
theorem dX5_disputed_1 : decode cX5_disputed 1 = .ok (.invokestatic 124, 3) := by decide +kernel
theorem dX5_disputed_4 : decode cX5_disputed 4 = .ok (.iload_n 2, 1) := by decide +kernel
theorem dX5_disputed_5 : decode cX5_disputed 5 = .ok (.invokestatic 104, 3) := by decide +kernel
theorem dX5_disputed_8 : decode cX5_disputed 8 = .ok (.aload_n 0, 1) := by decide +kernel
theorem dX5_disputed_9 : decode cX5_disputed 9 = .ok (.getfield 46, 3) := by decide +kernel
theorem dX5_disputed_12 : decode cX5_disputed 12 = .ok (.iload_n 2, 1) := by decide +kernel
theorem dX5_disputed_13 : decode cX5_disputed 13 = .ok (.invokevirtual 111, 3) := by decide +kernel
theorem dX5_disputed_16 : decode cX5_disputed 16 = .ok (.iconst 0, 1) := by decide +kernel
theorem dX5_disputed_17 : decode cX5_disputed 17 = .ok (.istore_n 3, 1) := by decide +kernel
theorem dX5_disputed_18 : decode cX5_disputed 18 = .ok (.iconst 0, 1) := by decide +kernel
theorem dX5_disputed_19 : decode cX5_disputed 19 = .ok (.istore 4, 2) := by decide +kernel
theorem dX5_disputed_21 : decode cX5_disputed 21 = .ok (.iload 4, 2) := by decide +kernel
theorem dX5_disputed_23 : decode cX5_disputed 23 = .ok (.aload_n 0, 1) := by decide +kernel
theorem dX5_disputed_24 : decode cX5_disputed 24 = .ok (.getfield 23, 3) := by decide +kernel
theorem dX5_disputed_27 : decode cX5_disputed 27 = .ok (.getfield 72, 3) := by decide +kernel
theorem dX5_disputed_30 : decode cX5_disputed 30 = .ok (.if_icmp .ge 37, 3) := by decide +kernel
theorem dX5_disputed_33 : decode cX5_disputed 33 = .ok (.aload_n 0, 1) := by decide +kernel
theorem dX5_disputed_34 : decode cX5_disputed 34 = .ok (.getfield 46, 3) := by decide +kernel
theorem dX5_disputed_37 : decode cX5_disputed 37 = .ok (.iload 4, 2) := by decide +kernel
theorem dX5_disputed_39 : decode cX5_disputed 39 = .ok (.invokevirtual 114, 3) := by decide +kernel
theorem dX5_disputed_42 : decode cX5_disputed 42 = .ok (.ifCond .eq 19, 3) := by decide +kernel
theorem dX5_disputed_45 : decode cX5_disputed 45 = .ok (.aload_n 0, 1) := by decide +kernel
theorem dX5_disputed_46 : decode cX5_disputed 46 = .ok (.getfield 46, 3) := by decide +kernel
theorem dX5_disputed_49 : decode cX5_disputed 49 = .ok (.iload 4, 2) := by decide +kernel
theorem dX5_disputed_51 : decode cX5_disputed 51 = .ok (.iload_n 1, 1) := by decide +kernel
theorem dX5_disputed_52 : decode cX5_disputed 52 = .ok (.invokevirtual 130, 3) := by decide +kernel
theorem dX5_disputed_55 : decode cX5_disputed 55 = .ok (.ifCond .eq 6, 3) := by decide +kernel
theorem dX5_disputed_58 : decode cX5_disputed 58 = .ok (.iinc 3 1, 3) := by decide +kernel
theorem dX5_disputed_61 : decode cX5_disputed 61 = .ok (.iinc 4 1, 3) := by decide +kernel
theorem dX5_disputed_64 : decode cX5_disputed 64 = .ok (.goto (-43), 3) := by decide +kernel
theorem dX5_disputed_67 : decode cX5_disputed 67 = .ok (.iload_n 3, 1) := by decide +kernel
theorem dX5_disputed_68 : decode cX5_disputed 68 = .ok (.ireturn, 1) := by decide +kernel
set_option maxRecDepth 20000 in
theorem ggX5_link_X5_requireFind : GoodIn wsX5_link wsX5_requireFind := goodIn_ca (goodIn_r _ [9, 10, 11, 12, 13, 31, 32, 33, 34, 35, 36, 37, 43, 44, 45, 46, 47, 48, 49] (by decide +kernel) (by decide +kernel)) (goodIn_sub (fun _ h => List.mem_cons_of_mem _ (List.mem_append_left _ (List.mem_append_right _ h))) (by decide +kernel))
set_option maxRecDepth 20000 in
theorem gX5_link_X5_requireFind : GoodIn wsX5_link (wsV RX5 88 RX5 yX5_requireFind wsX5_requireFind) := goodIn_app (goodIn_of _ (by decide +kernel)) ggX5_link_X5_requireFind
set_option maxRecDepth 20000 in
theorem ggX5_link_X5_requireUnlike : GoodIn wsX5_link wsX5_requireUnlike := goodIn_ca (goodIn_r _ [16, 17, 18] (by decide +kernel) (by decide +kernel)) (goodIn_sub (fun _ h => List.mem_cons_of_mem _ (List.mem_append_right _ h)) (by decide +kernel))
set_option maxRecDepth 20000 in
theorem gX5_link_X5_requireUnlike : GoodIn wsX5_link (va_wsS RX5 96 yX5_requireUnlike wsX5_requireUnlike) := goodIn_app (goodIn_of _ (by decide +kernel)) ggX5_link_X5_requireUnlike
set_option maxRecDepth 20000 in
theorem ggX5_link_X5_requireRange : GoodIn wsX5_link wsX5_requireRange := goodIn_ca (goodIn_r _ [21, 17, 18] (by decide +kernel) (by decide +kernel)) (goodIn_sub (fun _ h => List.mem_cons_of_mem _ (List.mem_append_right _ h)) (by decide +kernel))
set_option maxRecDepth 20000 in
theorem gX5_link_X5_requireRange : GoodIn wsX5_link (va_wsS RX5 53 yX5_requireRange wsX5_requireRange) := goodIn_app (goodIn_of _ (by decide +kernel)) ggX5_link_X5_requireRange
set_option maxRecDepth 20000 in
theorem ggX5_link_X1_add : GoodIn wsX5_link wsX1_add := goodIn_r _ [26, 27, 28, 29, 30, 38, 39, 40, 41, 42] (by decide +kernel) (by decide +kernel)
set_option maxRecDepth 20000 in
theorem gX5_link_X1_add : GoodIn wsX5_link (wsV RX5 137 RX1 yX1_add wsX1_add) := goodIn_app (goodIn_of _ (by decide +kernel)) ggX5_link_X1_add
theorem dX5_link_0 : decode cX5_link 0 = .ok (.aload_n 0, 1) := by decide +kernel
theorem dX5_link_1 : decode cX5_link 1 = .ok (.iload_n 1, 1) := by decide +kernel
theorem dX5_link_2 : decode cX5_link 2 = .ok (.invokevirtual 88, 3) := by decide +kernel
theorem dX5_link_5 : decode cX5_link 5 = .ok (.aload_n 0, 1) := by decide +kernel
theorem dX5_link_6 : decode cX5_link 6 = .ok (.iload_n 2, 1) := by decide +kernel
theorem dX5_link_7 : decode cX5_link 7 = .ok (.invokevirtual 88, 3) := by decide +kernel
theorem dX5_link_10 : decode cX5_link 10 = .ok (.iload_n 1, 1) := by decide +kernel
theorem dX5_link_11 : decode cX5_link 11 = .ok (.iload_n 2, 1) := by decide +kernel
theorem dX5_link_12 : decode cX5_link 12 = .ok (.invokestatic 96, 3) := by decide +kernel
theorem dX5_link_15 : decode cX5_link 15 = .ok (.iload_n 3, 1) := by decide +kernel
theorem dX5_link_16 : decode cX5_link 16 = .ok (.iconst 0, 1) := by decide +kernel
theorem dX5_link_17 : decode cX5_link 17 = .ok (.iconst 3, 1) := by decide +kernel
theorem dX5_link_18 : decode cX5_link 18 = .ok (.invokestatic 53, 3) := by decide +kernel
theorem dX5_link_21 : decode cX5_link 21 = .ok (.aload_n 0, 1) := by decide +kernel
theorem dX5_link_22 : decode cX5_link 22 = .ok (.getfield 30, 3) := by decide +kernel
theorem dX5_link_25 : decode cX5_link 25 = .ok (.getfield 134, 3) := by decide +kernel
theorem dX5_link_28 : decode cX5_link 28 = .ok (.bipush 40, 2) := by decide +kernel
theorem dX5_link_30 : decode cX5_link 30 = .ok (.if_icmp .lt 13, 3) := by decide +kernel
theorem dX5_link_33 : decode cX5_link 33 = .ok (.new 57, 3) := by decide +kernel
theorem dX5_link_36 : decode cX5_link 36 = .ok (.dup, 1) := by decide +kernel
theorem dX5_link_37 : decode cX5_link 37 = .ok (.ldc 135, 2) := by decide +kernel
theorem dX5_link_39 : decode cX5_link 39 = .ok (.invokespecial 61, 3) := by decide +kernel
theorem dX5_link_42 : decode cX5_link 42 = .ok (.athrow, 1) := by decide +kernel
theorem dX5_link_43 : decode cX5_link 43 = .ok (.aload_n 0, 1) := by decide +kernel
theorem dX5_link_44 : decode cX5_link 44 = .ok (.getfield 30, 3) := by decide +kernel
theorem dX5_link_47 : decode cX5_link 47 = .ok (.iload_n 1, 1) := by decide +kernel
theorem dX5_link_48 : decode cX5_link 48 = .ok (.iload_n 2, 1) := by decide +kernel
theorem dX5_link_49 : decode cX5_link 49 = .ok (.iload_n 3, 1) := by decide +kernel
theorem dX5_link_50 : decode cX5_link 50 = .ok (.invokevirtual 137, 3) := by decide +kernel
theorem dX5_link_53 : decode cX5_link 53 = .ok (.aload_n 0, 1) := by decide +kernel
theorem dX5_link_54 : decode cX5_link 54 = .ok (.getfield 30, 3) := by decide +kernel
theorem dX5_link_57 : decode cX5_link 57 = .ok (.getfield 134, 3) := by decide +kernel
theorem dX5_link_60 : decode cX5_link 60 = .ok (.ireturn, 1) := by decide +kernel
set_option maxRecDepth 20000 in
theorem ggX5_impact_X5_requireFind : GoodIn wsX5_impact wsX5_requireFind := goodIn_ca (goodIn_r _ [8, 9, 10, 11, 12, 101, 102, 103, 104, 105, 106, 107, 111, 112, 113, 114, 115, 116, 117] (by decide +kernel) (by decide +kernel)) (goodIn_sub (fun _ h => List.mem_cons_of_mem _ (List.mem_append_left _ (List.mem_append_left _ (List.mem_append_right _ h)))) (by decide +kernel))
set_option maxRecDepth 20000 in
theorem gX5_impact_X5_requireFind : GoodIn wsX5_impact (wsV RX5 88 RX5 yX5_requireFind wsX5_requireFind) := goodIn_app (goodIn_of _ (by decide +kernel)) ggX5_impact_X5_requireFind
set_option maxRecDepth 20000 in
theorem ggX5_impact_X5_requireDay : GoodIn wsX5_impact wsX5_requireDay := goodIn_ca (goodIn_r _ [15, 16, 17, 7, 18, 19, 20] (by decide +kernel) (by decide +kernel)) (goodIn_sub (fun _ h => List.mem_cons_of_mem _ (List.mem_append_left _ (List.mem_append_right _ h))) (by decide +kernel))
set_option maxRecDepth 20000 in
theorem gX5_impact_X5_requireDay : GoodIn wsX5_impact (va_wsS RX5 104 yX5_requireDay wsX5_requireDay) := goodIn_app (goodIn_of _ (by decide +kernel)) ggX5_impact_X5_requireDay
set_option maxRecDepth 20000 in
theorem ggX5_impact_X3_sortFor : GoodIn wsX5_impact wsX3_sortFor := goodIn_r _ [25, 26, 27, 28, 29, 30, 31, 32, 33, 34, 35, 36, 37, 38, 39, 40, 41, 24, 42, 43, 44, 45, 46, 47, 48, 49, 50, 51, 52, 53, 54, 55, 56, 57, 58, 59, 60, 61, 62, 63, 64, 65, 66, 67, 108, 109, 110, 111, 112, 113, 114, 115, 116, 117, 118, 119] (by decide +kernel) (by decide +kernel)
set_option maxRecDepth 20000 in
theorem gX5_impact_X3_sortFor : GoodIn wsX5_impact (wsV RX5 111 RX3 yX3_sortFor wsX3_sortFor) := goodIn_app (goodIn_of _ (by decide +kernel)) ggX5_impact_X3_sortFor
set_option maxRecDepth 20000 in
theorem ggX5_impact_X5_requireCounting : GoodIn wsX5_impact wsX5_requireCounting := goodIn_ca (goodIn_r _ [71, 72, 73, 1, 3, 101, 102, 103, 104, 105, 106, 107, 108, 109, 110] (by decide +kernel) (by decide +kernel)) (goodIn_sub (fun _ h => List.mem_cons_of_mem _ (List.mem_append_right _ h)) (by decide +kernel))
set_option maxRecDepth 20000 in
theorem gX5_impact_X5_requireCounting : GoodIn wsX5_impact (wsV RX5 118 RX5 yX5_requireCounting wsX5_requireCounting) := goodIn_app (goodIn_of _ (by decide +kernel)) ggX5_impact_X5_requireCounting
set_option maxRecDepth 20000 in
theorem ggX5_impact_X1_failFrom : GoodIn wsX5_impact wsX1_failFrom := goodIn_r _ [78, 79, 80, 81, 82, 77, 83, 84, 85, 86, 87, 88, 89, 90, 91, 92, 93, 94, 95, 96, 120, 121, 122, 123, 124, 108, 109, 110] (by decide +kernel) (by decide +kernel)
set_option maxRecDepth 20000 in
theorem gX5_impact_X1_failFrom : GoodIn wsX5_impact (wsV RX5 140 RX1 yX1_failFrom wsX1_failFrom) := goodIn_app (goodIn_of _ (by decide +kernel)) ggX5_impact_X1_failFrom
set_option maxRecDepth 20000 in
theorem ggX5_impact_X1_failures : GoodIn wsX5_impact wsX1_failures := goodIn_r _ [100, 79, 120, 121, 122, 123, 124] (by decide +kernel) (by decide +kernel)
set_option maxRecDepth 20000 in
theorem gX5_impact_X1_failures : GoodIn wsX5_impact (wsV RX5 144 RX1 yX1_failures wsX1_failures) := goodIn_app (goodIn_of _ (by decide +kernel)) ggX5_impact_X1_failures
theorem dX5_impact_0 : decode cX5_impact 0 = .ok (.aload_n 0, 1) := by decide +kernel
theorem dX5_impact_1 : decode cX5_impact 1 = .ok (.iload_n 1, 1) := by decide +kernel
theorem dX5_impact_2 : decode cX5_impact 2 = .ok (.invokevirtual 88, 3) := by decide +kernel
theorem dX5_impact_5 : decode cX5_impact 5 = .ok (.iload_n 2, 1) := by decide +kernel
theorem dX5_impact_6 : decode cX5_impact 6 = .ok (.invokestatic 104, 3) := by decide +kernel
theorem dX5_impact_9 : decode cX5_impact 9 = .ok (.aload_n 0, 1) := by decide +kernel
theorem dX5_impact_10 : decode cX5_impact 10 = .ok (.getfield 46, 3) := by decide +kernel
theorem dX5_impact_13 : decode cX5_impact 13 = .ok (.iload_n 2, 1) := by decide +kernel
theorem dX5_impact_14 : decode cX5_impact 14 = .ok (.invokevirtual 111, 3) := by decide +kernel
theorem dX5_impact_17 : decode cX5_impact 17 = .ok (.aload_n 0, 1) := by decide +kernel
theorem dX5_impact_18 : decode cX5_impact 18 = .ok (.iload_n 1, 1) := by decide +kernel
theorem dX5_impact_19 : decode cX5_impact 19 = .ok (.invokevirtual 118, 3) := by decide +kernel
theorem dX5_impact_22 : decode cX5_impact 22 = .ok (.aload_n 0, 1) := by decide +kernel
theorem dX5_impact_23 : decode cX5_impact 23 = .ok (.getfield 30, 3) := by decide +kernel
theorem dX5_impact_26 : decode cX5_impact 26 = .ok (.aload_n 0, 1) := by decide +kernel
theorem dX5_impact_27 : decode cX5_impact 27 = .ok (.getfield 46, 3) := by decide +kernel
theorem dX5_impact_30 : decode cX5_impact 30 = .ok (.getfield 121, 3) := by decide +kernel
theorem dX5_impact_33 : decode cX5_impact 33 = .ok (.iload_n 1, 1) := by decide +kernel
theorem dX5_impact_34 : decode cX5_impact 34 = .ok (.iaload, 1) := by decide +kernel
theorem dX5_impact_35 : decode cX5_impact 35 = .ok (.aload_n 0, 1) := by decide +kernel
theorem dX5_impact_36 : decode cX5_impact 36 = .ok (.getfield 46, 3) := by decide +kernel
theorem dX5_impact_39 : decode cX5_impact 39 = .ok (.invokevirtual 140, 3) := by decide +kernel
theorem dX5_impact_42 : decode cX5_impact 42 = .ok (.aload_n 0, 1) := by decide +kernel
theorem dX5_impact_43 : decode cX5_impact 43 = .ok (.getfield 30, 3) := by decide +kernel
theorem dX5_impact_46 : decode cX5_impact 46 = .ok (.invokevirtual 144, 3) := by decide +kernel
theorem dX5_impact_49 : decode cX5_impact 49 = .ok (.ireturn, 1) := by decide +kernel
set_option maxRecDepth 20000 in
theorem ggX5_failsWith_X5_requireFind : GoodIn wsX5_failsWith wsX5_requireFind := goodIn_ca (goodIn_r _ [9, 10, 11, 12, 13, 98, 99, 100, 101, 102, 103, 104, 113, 114, 115, 116, 117, 118, 119] (by decide +kernel) (by decide +kernel)) (goodIn_sub (fun _ h => List.mem_cons_of_mem _ (List.mem_append_left _ (List.mem_append_left _ (List.mem_append_right _ h)))) (by decide +kernel))
set_option maxRecDepth 20000 in
theorem gX5_failsWith_X5_requireFind : GoodIn wsX5_failsWith (wsV RX5 88 RX5 yX5_requireFind wsX5_requireFind) := goodIn_app (goodIn_of _ (by decide +kernel)) ggX5_failsWith_X5_requireFind
set_option maxRecDepth 20000 in
theorem ggX5_failsWith_X5_requireDay : GoodIn wsX5_failsWith wsX5_requireDay := goodIn_ca (goodIn_r _ [16, 17, 18, 8, 19, 20, 21] (by decide +kernel) (by decide +kernel)) (goodIn_sub (fun _ h => List.mem_cons_of_mem _ (List.mem_append_left _ (List.mem_append_right _ h))) (by decide +kernel))
set_option maxRecDepth 20000 in
theorem gX5_failsWith_X5_requireDay : GoodIn wsX5_failsWith (va_wsS RX5 104 yX5_requireDay wsX5_requireDay) := goodIn_app (goodIn_of _ (by decide +kernel)) ggX5_failsWith_X5_requireDay
set_option maxRecDepth 20000 in
theorem ggX5_failsWith_X3_sortFor : GoodIn wsX5_failsWith wsX3_sortFor := goodIn_r _ [26, 27, 28, 29, 30, 31, 32, 33, 34, 35, 36, 37, 38, 39, 40, 41, 42, 25, 43, 44, 45, 46, 47, 48, 49, 50, 51, 52, 53, 54, 55, 56, 57, 58, 59, 60, 61, 62, 63, 64, 65, 66, 67, 68, 105, 106, 107, 113, 114, 115, 116, 117, 118, 119, 120, 121] (by decide +kernel) (by decide +kernel)
set_option maxRecDepth 20000 in
theorem gX5_failsWith_X3_sortFor : GoodIn wsX5_failsWith (wsV RX5 111 RX3 yX3_sortFor wsX3_sortFor) := goodIn_app (goodIn_of _ (by decide +kernel)) ggX5_failsWith_X3_sortFor
set_option maxRecDepth 20000 in
theorem ggX5_failsWith_X5_requireCounting : GoodIn wsX5_failsWith wsX5_requireCounting := goodIn_ca (goodIn_r _ [72, 73, 74, 1, 3, 98, 99, 100, 101, 102, 103, 104, 105, 106, 107] (by decide +kernel) (by decide +kernel)) (goodIn_sub (fun _ h => List.mem_cons_of_mem _ (List.mem_append_right _ h)) (by decide +kernel))
set_option maxRecDepth 20000 in
theorem gX5_failsWith_X5_requireCounting : GoodIn wsX5_failsWith (wsV RX5 118 RX5 yX5_requireCounting wsX5_requireCounting) := goodIn_app (goodIn_of _ (by decide +kernel)) ggX5_failsWith_X5_requireCounting
set_option maxRecDepth 20000 in
theorem ggX5_failsWith_X1_failFrom : GoodIn wsX5_failsWith wsX1_failFrom := goodIn_r _ [79, 80, 81, 82, 83, 78, 84, 85, 86, 87, 88, 89, 90, 91, 92, 93, 94, 95, 96, 97, 108, 109, 110, 111, 112, 105, 106, 107] (by decide +kernel) (by decide +kernel)
set_option maxRecDepth 20000 in
theorem gX5_failsWith_X1_failFrom : GoodIn wsX5_failsWith (wsV RX5 140 RX1 yX1_failFrom wsX1_failFrom) := goodIn_app (goodIn_of _ (by decide +kernel)) ggX5_failsWith_X1_failFrom
theorem dX5_failsWith_0 : decode cX5_failsWith 0 = .ok (.aload_n 0, 1) := by decide +kernel
theorem dX5_failsWith_1 : decode cX5_failsWith 1 = .ok (.iload_n 1, 1) := by decide +kernel
theorem dX5_failsWith_2 : decode cX5_failsWith 2 = .ok (.invokevirtual 88, 3) := by decide +kernel
theorem dX5_failsWith_5 : decode cX5_failsWith 5 = .ok (.aload_n 0, 1) := by decide +kernel
theorem dX5_failsWith_6 : decode cX5_failsWith 6 = .ok (.iload_n 2, 1) := by decide +kernel
theorem dX5_failsWith_7 : decode cX5_failsWith 7 = .ok (.invokevirtual 88, 3) := by decide +kernel
theorem dX5_failsWith_10 : decode cX5_failsWith 10 = .ok (.iload_n 3, 1) := by decide +kernel
theorem dX5_failsWith_11 : decode cX5_failsWith 11 = .ok (.invokestatic 104, 3) := by decide +kernel
theorem dX5_failsWith_14 : decode cX5_failsWith 14 = .ok (.aload_n 0, 1) := by decide +kernel
theorem dX5_failsWith_15 : decode cX5_failsWith 15 = .ok (.getfield 46, 3) := by decide +kernel
theorem dX5_failsWith_18 : decode cX5_failsWith 18 = .ok (.iload_n 3, 1) := by decide +kernel
theorem dX5_failsWith_19 : decode cX5_failsWith 19 = .ok (.invokevirtual 111, 3) := by decide +kernel
theorem dX5_failsWith_22 : decode cX5_failsWith 22 = .ok (.aload_n 0, 1) := by decide +kernel
theorem dX5_failsWith_23 : decode cX5_failsWith 23 = .ok (.iload_n 1, 1) := by decide +kernel
theorem dX5_failsWith_24 : decode cX5_failsWith 24 = .ok (.invokevirtual 118, 3) := by decide +kernel
theorem dX5_failsWith_27 : decode cX5_failsWith 27 = .ok (.aload_n 0, 1) := by decide +kernel
theorem dX5_failsWith_28 : decode cX5_failsWith 28 = .ok (.iload_n 2, 1) := by decide +kernel
theorem dX5_failsWith_29 : decode cX5_failsWith 29 = .ok (.invokevirtual 118, 3) := by decide +kernel
theorem dX5_failsWith_32 : decode cX5_failsWith 32 = .ok (.aload_n 0, 1) := by decide +kernel
theorem dX5_failsWith_33 : decode cX5_failsWith 33 = .ok (.getfield 30, 3) := by decide +kernel
theorem dX5_failsWith_36 : decode cX5_failsWith 36 = .ok (.aload_n 0, 1) := by decide +kernel
theorem dX5_failsWith_37 : decode cX5_failsWith 37 = .ok (.getfield 46, 3) := by decide +kernel
theorem dX5_failsWith_40 : decode cX5_failsWith 40 = .ok (.getfield 121, 3) := by decide +kernel
theorem dX5_failsWith_43 : decode cX5_failsWith 43 = .ok (.iload_n 2, 1) := by decide +kernel
theorem dX5_failsWith_44 : decode cX5_failsWith 44 = .ok (.iaload, 1) := by decide +kernel
theorem dX5_failsWith_45 : decode cX5_failsWith 45 = .ok (.aload_n 0, 1) := by decide +kernel
theorem dX5_failsWith_46 : decode cX5_failsWith 46 = .ok (.getfield 46, 3) := by decide +kernel
theorem dX5_failsWith_49 : decode cX5_failsWith 49 = .ok (.invokevirtual 140, 3) := by decide +kernel
theorem dX5_failsWith_52 : decode cX5_failsWith 52 = .ok (.aload_n 0, 1) := by decide +kernel
theorem dX5_failsWith_53 : decode cX5_failsWith 53 = .ok (.getfield 30, 3) := by decide +kernel
theorem dX5_failsWith_56 : decode cX5_failsWith 56 = .ok (.getfield 148, 3) := by decide +kernel
theorem dX5_failsWith_59 : decode cX5_failsWith 59 = .ok (.aload_n 0, 1) := by decide +kernel
theorem dX5_failsWith_60 : decode cX5_failsWith 60 = .ok (.getfield 46, 3) := by decide +kernel
theorem dX5_failsWith_63 : decode cX5_failsWith 63 = .ok (.getfield 121, 3) := by decide +kernel
theorem dX5_failsWith_66 : decode cX5_failsWith 66 = .ok (.iload_n 1, 1) := by decide +kernel
theorem dX5_failsWith_67 : decode cX5_failsWith 67 = .ok (.iaload, 1) := by decide +kernel
theorem dX5_failsWith_68 : decode cX5_failsWith 68 = .ok (.baload, 1) := by decide +kernel
theorem dX5_failsWith_69 : decode cX5_failsWith 69 = .ok (.ireturn, 1) := by decide +kernel
set_option maxRecDepth 20000 in
theorem ggX5_wish_X5_requireRange : GoodIn wsX5_wish wsX5_requireRange := goodIn_ca (goodIn_r _ [8, 9, 10] (by decide +kernel) (by decide +kernel)) (goodIn_sub (fun _ h => List.mem_cons_of_mem _ (List.mem_append_right _ h)) (by decide +kernel))
set_option maxRecDepth 20000 in
theorem gX5_wish_X5_requireRange : GoodIn wsX5_wish (va_wsS RX5 53 yX5_requireRange wsX5_requireRange) := goodIn_app (goodIn_of _ (by decide +kernel)) ggX5_wish_X5_requireRange
set_option maxRecDepth 20000 in
theorem ggX5_wish_X5_requireAttribute : GoodIn wsX5_wish wsX5_requireAttribute := goodIn_ca (goodIn_r _ [13, 5, 6, 7, 8, 9, 10] (by decide +kernel) (by decide +kernel)) (goodIn_sub (fun _ h => List.mem_cons_of_mem _ (List.mem_append_right _ h)) (by decide +kernel))
set_option maxRecDepth 20000 in
theorem gX5_wish_X5_requireAttribute : GoodIn wsX5_wish (va_wsS RX5 124 yX5_requireAttribute wsX5_requireAttribute) := goodIn_app (goodIn_of _ (by decide +kernel)) ggX5_wish_X5_requireAttribute
set_option maxRecDepth 20000 in
theorem ggX5_wish_X4_add : GoodIn wsX5_wish wsX4_add := goodIn_r _ [18, 19, 20, 21, 22, 23, 31, 32, 33, 34, 35] (by decide +kernel) (by decide +kernel)
set_option maxRecDepth 20000 in
theorem gX5_wish_X4_add : GoodIn wsX5_wish (wsV RX5 154 RX4 yX4_add wsX4_add) := goodIn_app (goodIn_of _ (by decide +kernel)) ggX5_wish_X4_add
theorem dX5_wish_0 : decode cX5_wish 0 = .ok (.iload_n 1, 1) := by decide +kernel
theorem dX5_wish_1 : decode cX5_wish 1 = .ok (.iconst 0, 1) := by decide +kernel
theorem dX5_wish_2 : decode cX5_wish 2 = .ok (.iconst 2, 1) := by decide +kernel
theorem dX5_wish_3 : decode cX5_wish 3 = .ok (.invokestatic 53, 3) := by decide +kernel
theorem dX5_wish_6 : decode cX5_wish 6 = .ok (.iload_n 2, 1) := by decide +kernel
theorem dX5_wish_7 : decode cX5_wish 7 = .ok (.iconst 1, 1) := by decide +kernel
theorem dX5_wish_8 : decode cX5_wish 8 = .ok (.bipush 99, 2) := by decide +kernel
theorem dX5_wish_10 : decode cX5_wish 10 = .ok (.invokestatic 53, 3) := by decide +kernel
theorem dX5_wish_13 : decode cX5_wish 13 = .ok (.iload_n 3, 1) := by decide +kernel
theorem dX5_wish_14 : decode cX5_wish 14 = .ok (.invokestatic 124, 3) := by decide +kernel
theorem dX5_wish_17 : decode cX5_wish 17 = .ok (.iload 4, 2) := by decide +kernel
theorem dX5_wish_19 : decode cX5_wish 19 = .ok (.iconst 0, 1) := by decide +kernel
theorem dX5_wish_20 : decode cX5_wish 20 = .ok (.bipush 99, 2) := by decide +kernel
theorem dX5_wish_22 : decode cX5_wish 22 = .ok (.invokestatic 53, 3) := by decide +kernel
theorem dX5_wish_25 : decode cX5_wish 25 = .ok (.aload_n 0, 1) := by decide +kernel
theorem dX5_wish_26 : decode cX5_wish 26 = .ok (.getfield 37, 3) := by decide +kernel
theorem dX5_wish_29 : decode cX5_wish 29 = .ok (.getfield 151, 3) := by decide +kernel
theorem dX5_wish_32 : decode cX5_wish 32 = .ok (.bipush 20, 2) := by decide +kernel
theorem dX5_wish_34 : decode cX5_wish 34 = .ok (.if_icmp .lt 13, 3) := by decide +kernel
theorem dX5_wish_37 : decode cX5_wish 37 = .ok (.new 57, 3) := by decide +kernel
theorem dX5_wish_40 : decode cX5_wish 40 = .ok (.dup, 1) := by decide +kernel
theorem dX5_wish_41 : decode cX5_wish 41 = .ok (.ldc 152, 2) := by decide +kernel
theorem dX5_wish_43 : decode cX5_wish 43 = .ok (.invokespecial 61, 3) := by decide +kernel
theorem dX5_wish_46 : decode cX5_wish 46 = .ok (.athrow, 1) := by decide +kernel
theorem dX5_wish_47 : decode cX5_wish 47 = .ok (.aload_n 0, 1) := by decide +kernel
theorem dX5_wish_48 : decode cX5_wish 48 = .ok (.getfield 37, 3) := by decide +kernel
theorem dX5_wish_51 : decode cX5_wish 51 = .ok (.iload_n 1, 1) := by decide +kernel
theorem dX5_wish_52 : decode cX5_wish 52 = .ok (.iload_n 2, 1) := by decide +kernel
theorem dX5_wish_53 : decode cX5_wish 53 = .ok (.iload_n 3, 1) := by decide +kernel
theorem dX5_wish_54 : decode cX5_wish 54 = .ok (.iload 4, 2) := by decide +kernel
theorem dX5_wish_56 : decode cX5_wish 56 = .ok (.invokevirtual 154, 3) := by decide +kernel
theorem dX5_wish_59 : decode cX5_wish 59 = .ok (.ireturn, 1) := by decide +kernel
set_option maxRecDepth 20000 in
theorem ggX5_differing_X5_requireDay : GoodIn wsX5_differing wsX5_requireDay := goodIn_ca (goodIn_r _ [11, 12, 13, 10, 14, 15, 16] (by decide +kernel) (by decide +kernel)) (goodIn_sub (fun _ h => List.mem_cons_of_mem _ (List.mem_append_right _ h)) (by decide +kernel))
set_option maxRecDepth 20000 in
theorem gX5_differing_X5_requireDay : GoodIn wsX5_differing (va_wsS RX5 104 yX5_requireDay wsX5_requireDay) := goodIn_app (goodIn_of _ (by decide +kernel)) ggX5_differing_X5_requireDay
set_option maxRecDepth 20000 in
theorem ggX5_differing_X3_sortFor : GoodIn wsX5_differing wsX3_sortFor := goodIn_r _ [21, 22, 23, 24, 25, 26, 27, 28, 29, 30, 31, 32, 33, 34, 35, 36, 37, 20, 38, 39, 40, 41, 42, 43, 44, 45, 46, 47, 48, 49, 50, 51, 52, 53, 54, 55, 56, 57, 58, 59, 60, 61, 62, 63, 116, 117, 118, 109, 110, 111, 112, 113, 114, 115, 119, 120] (by decide +kernel) (by decide +kernel)
set_option maxRecDepth 20000 in
theorem gX5_differing_X3_sortFor : GoodIn wsX5_differing (wsV RX5 111 RX3 yX3_sortFor wsX3_sortFor) := goodIn_app (goodIn_of _ (by decide +kernel)) ggX5_differing_X3_sortFor
set_option maxRecDepth 20000 in
theorem ggX5_differing_X3_isThing : GoodIn wsX5_differing wsX3_isThing := goodIn_r _ [67, 24, 116, 117, 118] (by decide +kernel) (by decide +kernel)
set_option maxRecDepth 20000 in
theorem gX5_differing_X3_isThing : GoodIn wsX5_differing (wsV RX5 114 RX3 yX3_isThing wsX3_isThing) := goodIn_app (goodIn_of _ (by decide +kernel)) ggX5_differing_X3_isThing
set_option maxRecDepth 20000 in
theorem ggX5_differing_X4_isMissedBy : GoodIn wsX5_differing wsX4_isMissedBy := goodIn_r _ [72, 73, 74, 75, 76, 77, 78, 79, 20, 80, 22, 23, 24, 81, 82, 83, 84, 85, 86, 87, 88, 89, 90, 91, 92, 93, 94, 25, 95, 96, 104, 105, 106, 107, 108, 116, 117, 118, 109, 110, 111, 112, 113, 114, 115, 119, 120] (by decide +kernel) (by decide +kernel)
set_option maxRecDepth 20000 in
theorem gX5_differing_X4_isMissedBy : GoodIn wsX5_differing (wsV RX5 162 RX4 yX4_isMissedBy wsX4_isMissedBy) := goodIn_app (goodIn_of _ (by decide +kernel)) ggX5_differing_X4_isMissedBy
theorem dX5_differing_0 : decode cX5_differing 0 = .ok (.iload_n 1, 1) := by decide +kernel
theorem dX5_differing_1 : decode cX5_differing 1 = .ok (.ifCond .lt 14, 3) := by decide +kernel
theorem dX5_differing_4 : decode cX5_differing 4 = .ok (.iload_n 1, 1) := by decide +kernel
theorem dX5_differing_5 : decode cX5_differing 5 = .ok (.aload_n 0, 1) := by decide +kernel
theorem dX5_differing_6 : decode cX5_differing 6 = .ok (.getfield 37, 3) := by decide +kernel
theorem dX5_differing_9 : decode cX5_differing 9 = .ok (.getfield 151, 3) := by decide +kernel
theorem dX5_differing_12 : decode cX5_differing 12 = .ok (.if_icmp .lt 13, 3) := by decide +kernel
theorem dX5_differing_15 : decode cX5_differing 15 = .ok (.new 157, 3) := by decide +kernel
theorem dX5_differing_18 : decode cX5_differing 18 = .ok (.dup, 1) := by decide +kernel
theorem dX5_differing_19 : decode cX5_differing 19 = .ok (.ldc 159, 2) := by decide +kernel
theorem dX5_differing_21 : decode cX5_differing 21 = .ok (.invokespecial 161, 3) := by decide +kernel
theorem dX5_differing_24 : decode cX5_differing 24 = .ok (.athrow, 1) := by decide +kernel
theorem dX5_differing_25 : decode cX5_differing 25 = .ok (.iload_n 2, 1) := by decide +kernel
theorem dX5_differing_26 : decode cX5_differing 26 = .ok (.invokestatic 104, 3) := by decide +kernel
theorem dX5_differing_29 : decode cX5_differing 29 = .ok (.aload_n 0, 1) := by decide +kernel
theorem dX5_differing_30 : decode cX5_differing 30 = .ok (.getfield 46, 3) := by decide +kernel
theorem dX5_differing_33 : decode cX5_differing 33 = .ok (.iload_n 2, 1) := by decide +kernel
theorem dX5_differing_34 : decode cX5_differing 34 = .ok (.invokevirtual 111, 3) := by decide +kernel
theorem dX5_differing_37 : decode cX5_differing 37 = .ok (.iconst 0, 1) := by decide +kernel
theorem dX5_differing_38 : decode cX5_differing 38 = .ok (.istore_n 3, 1) := by decide +kernel
theorem dX5_differing_39 : decode cX5_differing 39 = .ok (.iconst 0, 1) := by decide +kernel
theorem dX5_differing_40 : decode cX5_differing 40 = .ok (.istore 4, 2) := by decide +kernel
theorem dX5_differing_42 : decode cX5_differing 42 = .ok (.iload 4, 2) := by decide +kernel
theorem dX5_differing_44 : decode cX5_differing 44 = .ok (.aload_n 0, 1) := by decide +kernel
theorem dX5_differing_45 : decode cX5_differing 45 = .ok (.getfield 23, 3) := by decide +kernel
theorem dX5_differing_48 : decode cX5_differing 48 = .ok (.getfield 72, 3) := by decide +kernel
theorem dX5_differing_51 : decode cX5_differing 51 = .ok (.if_icmp .ge 41, 3) := by decide +kernel
theorem dX5_differing_54 : decode cX5_differing 54 = .ok (.aload_n 0, 1) := by decide +kernel
theorem dX5_differing_55 : decode cX5_differing 55 = .ok (.getfield 46, 3) := by decide +kernel
theorem dX5_differing_58 : decode cX5_differing 58 = .ok (.iload 4, 2) := by decide +kernel
theorem dX5_differing_60 : decode cX5_differing 60 = .ok (.invokevirtual 114, 3) := by decide +kernel
theorem dX5_differing_63 : decode cX5_differing 63 = .ok (.ifCond .eq 23, 3) := by decide +kernel
theorem dX5_differing_66 : decode cX5_differing 66 = .ok (.aload_n 0, 1) := by decide +kernel
theorem dX5_differing_67 : decode cX5_differing 67 = .ok (.getfield 37, 3) := by decide +kernel
theorem dX5_differing_70 : decode cX5_differing 70 = .ok (.iload 4, 2) := by decide +kernel
theorem dX5_differing_72 : decode cX5_differing 72 = .ok (.iload_n 1, 1) := by decide +kernel
theorem dX5_differing_73 : decode cX5_differing 73 = .ok (.aload_n 0, 1) := by decide +kernel
theorem dX5_differing_74 : decode cX5_differing 74 = .ok (.getfield 46, 3) := by decide +kernel
theorem dX5_differing_77 : decode cX5_differing 77 = .ok (.invokevirtual 162, 3) := by decide +kernel
theorem dX5_differing_80 : decode cX5_differing 80 = .ok (.ifCond .eq 6, 3) := by decide +kernel
theorem dX5_differing_83 : decode cX5_differing 83 = .ok (.iinc 3 1, 3) := by decide +kernel
theorem dX5_differing_86 : decode cX5_differing 86 = .ok (.iinc 4 1, 3) := by decide +kernel
theorem dX5_differing_89 : decode cX5_differing 89 = .ok (.goto (-47), 3) := by decide +kernel
theorem dX5_differing_92 : decode cX5_differing 92 = .ok (.iload_n 3, 1) := by decide +kernel
theorem dX5_differing_93 : decode cX5_differing 93 = .ok (.ireturn, 1) := by decide +kernel
set_option maxRecDepth 20000 in
theorem ggX5_changed_X5_requireAttribute : GoodIn wsX5_changed wsX5_requireAttribute := goodIn_ca (goodIn_r _ [8, 9, 10, 7, 11, 12, 13] (by decide +kernel) (by decide +kernel)) (goodIn_sub (fun _ h => List.mem_cons_of_mem _ (List.mem_append_right _ h)) (by decide +kernel))
set_option maxRecDepth 20000 in
theorem gX5_changed_X5_requireAttribute : GoodIn wsX5_changed (va_wsS RX5 124 yX5_requireAttribute wsX5_requireAttribute) := goodIn_app (goodIn_of _ (by decide +kernel)) ggX5_changed_X5_requireAttribute
set_option maxRecDepth 20000 in
theorem ggX5_changed_X5_requireDay : GoodIn wsX5_changed wsX5_requireDay := goodIn_ca (goodIn_r _ [16, 9, 10, 7, 11, 12, 13] (by decide +kernel) (by decide +kernel)) (goodIn_sub (fun _ h => List.mem_cons_of_mem _ (List.mem_append_right _ h)) (by decide +kernel))
set_option maxRecDepth 20000 in
theorem gX5_changed_X5_requireDay : GoodIn wsX5_changed (va_wsS RX5 104 yX5_requireDay wsX5_requireDay) := goodIn_app (goodIn_of _ (by decide +kernel)) ggX5_changed_X5_requireDay
set_option maxRecDepth 20000 in
theorem ggX5_changed_X3_sortFor : GoodIn wsX5_changed wsX3_sortFor := goodIn_r _ [21, 22, 23, 24, 25, 26, 27, 28, 29, 30, 31, 32, 33, 34, 35, 36, 37, 20, 38, 39, 40, 41, 42, 43, 44, 45, 46, 47, 48, 49, 50, 51, 52, 53, 54, 55, 56, 57, 58, 59, 60, 61, 62, 63, 98, 99, 100, 91, 92, 93, 94, 95, 96, 97, 101, 102] (by decide +kernel) (by decide +kernel)
set_option maxRecDepth 20000 in
theorem gX5_changed_X3_sortFor : GoodIn wsX5_changed (wsV RX5 111 RX3 yX3_sortFor wsX3_sortFor) := goodIn_app (goodIn_of _ (by decide +kernel)) ggX5_changed_X3_sortFor
set_option maxRecDepth 20000 in
theorem ggX5_changed_X5_hasAnotherValue : GoodIn wsX5_changed wsX5_hasAnotherValue := goodIn_r _ [67, 1, 68, 2, 69, 70, 71, 20, 72, 22, 23, 73, 74, 75, 76, 77, 24, 78, 79, 80, 81, 25, 82, 83, 84, 85, 86, 87, 88, 89, 90, 98, 99, 100, 91, 92, 93, 94, 95, 96, 97, 101, 102] (by decide +kernel) (by decide +kernel)
set_option maxRecDepth 20000 in
theorem gX5_changed_X5_hasAnotherValue : GoodIn wsX5_changed (wsV RX5 166 RX5 yX5_hasAnotherValue wsX5_hasAnotherValue) := goodIn_app (goodIn_of _ (by decide +kernel)) ggX5_changed_X5_hasAnotherValue
theorem dX5_changed_0 : decode cX5_changed 0 = .ok (.iload_n 1, 1) := by decide +kernel
theorem dX5_changed_1 : decode cX5_changed 1 = .ok (.invokestatic 124, 3) := by decide +kernel
theorem dX5_changed_4 : decode cX5_changed 4 = .ok (.iload_n 2, 1) := by decide +kernel
theorem dX5_changed_5 : decode cX5_changed 5 = .ok (.invokestatic 104, 3) := by decide +kernel
theorem dX5_changed_8 : decode cX5_changed 8 = .ok (.iload_n 3, 1) := by decide +kernel
theorem dX5_changed_9 : decode cX5_changed 9 = .ok (.invokestatic 104, 3) := by decide +kernel
theorem dX5_changed_12 : decode cX5_changed 12 = .ok (.aload_n 0, 1) := by decide +kernel
theorem dX5_changed_13 : decode cX5_changed 13 = .ok (.getfield 46, 3) := by decide +kernel
theorem dX5_changed_16 : decode cX5_changed 16 = .ok (.iload_n 2, 1) := by decide +kernel
theorem dX5_changed_17 : decode cX5_changed 17 = .ok (.invokevirtual 111, 3) := by decide +kernel
theorem dX5_changed_20 : decode cX5_changed 20 = .ok (.aload_n 0, 1) := by decide +kernel
theorem dX5_changed_21 : decode cX5_changed 21 = .ok (.getfield 50, 3) := by decide +kernel
theorem dX5_changed_24 : decode cX5_changed 24 = .ok (.iload_n 3, 1) := by decide +kernel
theorem dX5_changed_25 : decode cX5_changed 25 = .ok (.invokevirtual 111, 3) := by decide +kernel
theorem dX5_changed_28 : decode cX5_changed 28 = .ok (.iconst 0, 1) := by decide +kernel
theorem dX5_changed_29 : decode cX5_changed 29 = .ok (.istore 4, 2) := by decide +kernel
theorem dX5_changed_31 : decode cX5_changed 31 = .ok (.iconst 0, 1) := by decide +kernel
theorem dX5_changed_32 : decode cX5_changed 32 = .ok (.istore 5, 2) := by decide +kernel
theorem dX5_changed_34 : decode cX5_changed 34 = .ok (.iload 5, 2) := by decide +kernel
theorem dX5_changed_36 : decode cX5_changed 36 = .ok (.aload_n 0, 1) := by decide +kernel
theorem dX5_changed_37 : decode cX5_changed 37 = .ok (.getfield 23, 3) := by decide +kernel
theorem dX5_changed_40 : decode cX5_changed 40 = .ok (.getfield 72, 3) := by decide +kernel
theorem dX5_changed_43 : decode cX5_changed 43 = .ok (.if_icmp .ge 22, 3) := by decide +kernel
theorem dX5_changed_46 : decode cX5_changed 46 = .ok (.aload_n 0, 1) := by decide +kernel
theorem dX5_changed_47 : decode cX5_changed 47 = .ok (.iload 5, 2) := by decide +kernel
theorem dX5_changed_49 : decode cX5_changed 49 = .ok (.iload_n 1, 1) := by decide +kernel
theorem dX5_changed_50 : decode cX5_changed 50 = .ok (.invokevirtual 166, 3) := by decide +kernel
theorem dX5_changed_53 : decode cX5_changed 53 = .ok (.ifCond .eq 6, 3) := by decide +kernel
theorem dX5_changed_56 : decode cX5_changed 56 = .ok (.iinc 4 1, 3) := by decide +kernel
theorem dX5_changed_59 : decode cX5_changed 59 = .ok (.iinc 5 1, 3) := by decide +kernel
theorem dX5_changed_62 : decode cX5_changed 62 = .ok (.goto (-28), 3) := by decide +kernel
theorem dX5_changed_65 : decode cX5_changed 65 = .ok (.iload 4, 2) := by decide +kernel
theorem dX5_changed_67 : decode cX5_changed 67 = .ok (.ireturn, 1) := by decide +kernel
set_option maxRecDepth 20000 in
theorem ggX5_hasAnotherValue_X3_attributeOf : GoodIn wsX5_hasAnotherValue wsX3_attributeOf := goodIn_r _ [8, 9, 10, 11, 12, 13, 14, 7, 15, 16, 17, 18, 19, 20, 21, 22, 23, 31, 32, 33, 34, 35, 36, 37, 38, 39, 40, 41, 42] (by decide +kernel) (by decide +kernel)
set_option maxRecDepth 20000 in
theorem gX5_hasAnotherValue_X3_attributeOf : GoodIn wsX5_hasAnotherValue (wsV RX5 127 RX3 yX3_attributeOf wsX3_attributeOf) := goodIn_app (goodIn_of _ (by decide +kernel)) ggX5_hasAnotherValue_X3_attributeOf
theorem dX5_hasAnotherValue_0 : decode cX5_hasAnotherValue 0 = .ok (.aload_n 0, 1) := by decide +kernel
theorem dX5_hasAnotherValue_1 : decode cX5_hasAnotherValue 1 = .ok (.getfield 46, 3) := by decide +kernel
theorem dX5_hasAnotherValue_4 : decode cX5_hasAnotherValue 4 = .ok (.getfield 121, 3) := by decide +kernel
theorem dX5_hasAnotherValue_7 : decode cX5_hasAnotherValue 7 = .ok (.iload_n 1, 1) := by decide +kernel
theorem dX5_hasAnotherValue_8 : decode cX5_hasAnotherValue 8 = .ok (.iaload, 1) := by decide +kernel
theorem dX5_hasAnotherValue_9 : decode cX5_hasAnotherValue 9 = .ok (.istore_n 3, 1) := by decide +kernel
theorem dX5_hasAnotherValue_10 : decode cX5_hasAnotherValue 10 = .ok (.aload_n 0, 1) := by decide +kernel
theorem dX5_hasAnotherValue_11 : decode cX5_hasAnotherValue 11 = .ok (.getfield 50, 3) := by decide +kernel
theorem dX5_hasAnotherValue_14 : decode cX5_hasAnotherValue 14 = .ok (.getfield 121, 3) := by decide +kernel
theorem dX5_hasAnotherValue_17 : decode cX5_hasAnotherValue 17 = .ok (.iload_n 1, 1) := by decide +kernel
theorem dX5_hasAnotherValue_18 : decode cX5_hasAnotherValue 18 = .ok (.iaload, 1) := by decide +kernel
theorem dX5_hasAnotherValue_19 : decode cX5_hasAnotherValue 19 = .ok (.istore 4, 2) := by decide +kernel
theorem dX5_hasAnotherValue_21 : decode cX5_hasAnotherValue 21 = .ok (.iload_n 3, 1) := by decide +kernel
theorem dX5_hasAnotherValue_22 : decode cX5_hasAnotherValue 22 = .ok (.iconst (-1), 1) := by decide +kernel
theorem dX5_hasAnotherValue_23 : decode cX5_hasAnotherValue 23 = .ok (.if_icmp .eq 35, 3) := by decide +kernel
theorem dX5_hasAnotherValue_26 : decode cX5_hasAnotherValue 26 = .ok (.iload 4, 2) := by decide +kernel
theorem dX5_hasAnotherValue_28 : decode cX5_hasAnotherValue 28 = .ok (.iconst (-1), 1) := by decide +kernel
theorem dX5_hasAnotherValue_29 : decode cX5_hasAnotherValue 29 = .ok (.if_icmp .eq 29, 3) := by decide +kernel
theorem dX5_hasAnotherValue_32 : decode cX5_hasAnotherValue 32 = .ok (.aload_n 0, 1) := by decide +kernel
theorem dX5_hasAnotherValue_33 : decode cX5_hasAnotherValue 33 = .ok (.getfield 46, 3) := by decide +kernel
theorem dX5_hasAnotherValue_36 : decode cX5_hasAnotherValue 36 = .ok (.iload_n 3, 1) := by decide +kernel
theorem dX5_hasAnotherValue_37 : decode cX5_hasAnotherValue 37 = .ok (.iload_n 2, 1) := by decide +kernel
theorem dX5_hasAnotherValue_38 : decode cX5_hasAnotherValue 38 = .ok (.invokevirtual 127, 3) := by decide +kernel
theorem dX5_hasAnotherValue_41 : decode cX5_hasAnotherValue 41 = .ok (.aload_n 0, 1) := by decide +kernel
theorem dX5_hasAnotherValue_42 : decode cX5_hasAnotherValue 42 = .ok (.getfield 50, 3) := by decide +kernel
theorem dX5_hasAnotherValue_45 : decode cX5_hasAnotherValue 45 = .ok (.iload 4, 2) := by decide +kernel
theorem dX5_hasAnotherValue_47 : decode cX5_hasAnotherValue 47 = .ok (.iload_n 2, 1) := by decide +kernel
theorem dX5_hasAnotherValue_48 : decode cX5_hasAnotherValue 48 = .ok (.invokevirtual 127, 3) := by decide +kernel
theorem dX5_hasAnotherValue_51 : decode cX5_hasAnotherValue 51 = .ok (.if_icmp .eq 7, 3) := by decide +kernel
theorem dX5_hasAnotherValue_54 : decode cX5_hasAnotherValue 54 = .ok (.iconst 1, 1) := by decide +kernel
theorem dX5_hasAnotherValue_55 : decode cX5_hasAnotherValue 55 = .ok (.goto 4, 3) := by decide +kernel
theorem dX5_hasAnotherValue_58 : decode cX5_hasAnotherValue 58 = .ok (.iconst 0, 1) := by decide +kernel
theorem dX5_hasAnotherValue_59 : decode cX5_hasAnotherValue 59 = .ok (.ireturn, 1) := by decide +kernel
theorem dX5_requireRange_0 : decode cX5_requireRange 0 = .ok (.iload_n 0, 1) := by decide +kernel
theorem dX5_requireRange_1 : decode cX5_requireRange 1 = .ok (.iload_n 1, 1) := by decide +kernel
theorem dX5_requireRange_2 : decode cX5_requireRange 2 = .ok (.if_icmp .lt 8, 3) := by decide +kernel
theorem dX5_requireRange_5 : decode cX5_requireRange 5 = .ok (.iload_n 0, 1) := by decide +kernel
theorem dX5_requireRange_6 : decode cX5_requireRange 6 = .ok (.iload_n 2, 1) := by decide +kernel
theorem dX5_requireRange_7 : decode cX5_requireRange 7 = .ok (.if_icmp .le 13, 3) := by decide +kernel
theorem dX5_requireRange_10 : decode cX5_requireRange 10 = .ok (.new 169, 3) := by decide +kernel
theorem dX5_requireRange_13 : decode cX5_requireRange 13 = .ok (.dup, 1) := by decide +kernel
theorem dX5_requireRange_14 : decode cX5_requireRange 14 = .ok (.ldc 171, 2) := by decide +kernel
theorem dX5_requireRange_16 : decode cX5_requireRange 16 = .ok (.invokespecial 173, 3) := by decide +kernel
theorem dX5_requireRange_19 : decode cX5_requireRange 19 = .ok (.athrow, 1) := by decide +kernel
theorem dX5_requireRange_20 : decode cX5_requireRange 20 = .ok (.return_, 1) := by decide +kernel
set_option maxRecDepth 20000 in
theorem ggX5_requireDay_X5_requireRange : GoodIn wsX5_requireDay wsX5_requireRange := goodIn_ca (goodIn_r _ [4, 5, 6] (by decide +kernel) (by decide +kernel)) (goodIn_sub (fun _ h => List.mem_cons_of_mem _ (List.mem_append_right _ h)) (by decide +kernel))
set_option maxRecDepth 20000 in
theorem gX5_requireDay_X5_requireRange : GoodIn wsX5_requireDay (va_wsS RX5 53 yX5_requireRange wsX5_requireRange) := goodIn_app (goodIn_of _ (by decide +kernel)) ggX5_requireDay_X5_requireRange
theorem dX5_requireDay_0 : decode cX5_requireDay 0 = .ok (.iload_n 0, 1) := by decide +kernel
theorem dX5_requireDay_1 : decode cX5_requireDay 1 = .ok (.iconst 0, 1) := by decide +kernel
theorem dX5_requireDay_2 : decode cX5_requireDay 2 = .ok (.sipush 9999, 3) := by decide +kernel
theorem dX5_requireDay_5 : decode cX5_requireDay 5 = .ok (.invokestatic 53, 3) := by decide +kernel
theorem dX5_requireDay_8 : decode cX5_requireDay 8 = .ok (.return_, 1) := by decide +kernel
set_option maxRecDepth 20000 in
theorem ggX5_requireAttribute_X5_requireRange : GoodIn wsX5_requireAttribute wsX5_requireRange := goodIn_ca (goodIn_r _ [4, 5, 6] (by decide +kernel) (by decide +kernel)) (goodIn_sub (fun _ h => List.mem_cons_of_mem _ (List.mem_append_right _ h)) (by decide +kernel))
set_option maxRecDepth 20000 in
theorem gX5_requireAttribute_X5_requireRange : GoodIn wsX5_requireAttribute (va_wsS RX5 53 yX5_requireRange wsX5_requireRange) := goodIn_app (goodIn_of _ (by decide +kernel)) ggX5_requireAttribute_X5_requireRange
theorem dX5_requireAttribute_0 : decode cX5_requireAttribute 0 = .ok (.iload_n 0, 1) := by decide +kernel
theorem dX5_requireAttribute_1 : decode cX5_requireAttribute 1 = .ok (.iconst 0, 1) := by decide +kernel
theorem dX5_requireAttribute_2 : decode cX5_requireAttribute 2 = .ok (.iconst 1, 1) := by decide +kernel
theorem dX5_requireAttribute_3 : decode cX5_requireAttribute 3 = .ok (.invokestatic 53, 3) := by decide +kernel
theorem dX5_requireAttribute_6 : decode cX5_requireAttribute 6 = .ok (.return_, 1) := by decide +kernel
theorem dX5_requireUnlike_0 : decode cX5_requireUnlike 0 = .ok (.iload_n 0, 1) := by decide +kernel
theorem dX5_requireUnlike_1 : decode cX5_requireUnlike 1 = .ok (.iload_n 1, 1) := by decide +kernel
theorem dX5_requireUnlike_2 : decode cX5_requireUnlike 2 = .ok (.if_icmp .ne 13, 3) := by decide +kernel
theorem dX5_requireUnlike_5 : decode cX5_requireUnlike 5 = .ok (.new 169, 3) := by decide +kernel
theorem dX5_requireUnlike_8 : decode cX5_requireUnlike 8 = .ok (.dup, 1) := by decide +kernel
theorem dX5_requireUnlike_9 : decode cX5_requireUnlike 9 = .ok (.ldc 174, 2) := by decide +kernel
theorem dX5_requireUnlike_11 : decode cX5_requireUnlike 11 = .ok (.invokespecial 173, 3) := by decide +kernel
theorem dX5_requireUnlike_14 : decode cX5_requireUnlike 14 = .ok (.athrow, 1) := by decide +kernel
theorem dX5_requireUnlike_15 : decode cX5_requireUnlike 15 = .ok (.return_, 1) := by decide +kernel
theorem dX5_requireFind_0 : decode cX5_requireFind 0 = .ok (.iload_n 1, 1) := by decide +kernel
theorem dX5_requireFind_1 : decode cX5_requireFind 1 = .ok (.ifCond .lt 14, 3) := by decide +kernel
theorem dX5_requireFind_4 : decode cX5_requireFind 4 = .ok (.iload_n 1, 1) := by decide +kernel
theorem dX5_requireFind_5 : decode cX5_requireFind 5 = .ok (.aload_n 0, 1) := by decide +kernel
theorem dX5_requireFind_6 : decode cX5_requireFind 6 = .ok (.getfield 23, 3) := by decide +kernel
theorem dX5_requireFind_9 : decode cX5_requireFind 9 = .ok (.getfield 72, 3) := by decide +kernel
theorem dX5_requireFind_12 : decode cX5_requireFind 12 = .ok (.if_icmp .lt 13, 3) := by decide +kernel
theorem dX5_requireFind_15 : decode cX5_requireFind 15 = .ok (.new 157, 3) := by decide +kernel
theorem dX5_requireFind_18 : decode cX5_requireFind 18 = .ok (.dup, 1) := by decide +kernel
theorem dX5_requireFind_19 : decode cX5_requireFind 19 = .ok (.ldc 176, 2) := by decide +kernel
theorem dX5_requireFind_21 : decode cX5_requireFind 21 = .ok (.invokespecial 161, 3) := by decide +kernel
theorem dX5_requireFind_24 : decode cX5_requireFind 24 = .ok (.athrow, 1) := by decide +kernel
theorem dX5_requireFind_25 : decode cX5_requireFind 25 = .ok (.return_, 1) := by decide +kernel
theorem dX5_requireCounting_0 : decode cX5_requireCounting 0 = .ok (.aload_n 0, 1) := by decide +kernel
theorem dX5_requireCounting_1 : decode cX5_requireCounting 1 = .ok (.getfield 46, 3) := by decide +kernel
theorem dX5_requireCounting_4 : decode cX5_requireCounting 4 = .ok (.getfield 121, 3) := by decide +kernel
theorem dX5_requireCounting_7 : decode cX5_requireCounting 7 = .ok (.iload_n 1, 1) := by decide +kernel
theorem dX5_requireCounting_8 : decode cX5_requireCounting 8 = .ok (.iaload, 1) := by decide +kernel
theorem dX5_requireCounting_9 : decode cX5_requireCounting 9 = .ok (.iconst (-1), 1) := by decide +kernel
theorem dX5_requireCounting_10 : decode cX5_requireCounting 10 = .ok (.if_icmp .ne 13, 3) := by decide +kernel
theorem dX5_requireCounting_13 : decode cX5_requireCounting 13 = .ok (.new 178, 3) := by decide +kernel
theorem dX5_requireCounting_16 : decode cX5_requireCounting 16 = .ok (.dup, 1) := by decide +kernel
theorem dX5_requireCounting_17 : decode cX5_requireCounting 17 = .ok (.ldc 180, 2) := by decide +kernel
theorem dX5_requireCounting_19 : decode cX5_requireCounting 19 = .ok (.invokespecial 182, 3) := by decide +kernel
theorem dX5_requireCounting_22 : decode cX5_requireCounting 22 = .ok (.athrow, 1) := by decide +kernel
theorem dX5_requireCounting_23 : decode cX5_requireCounting 23 = .ok (.return_, 1) := by decide +kernel
theorem dJ9_max_7cf53_0 : decode cJ9_max_7cf53 0 = .ok (.iload_n 0, 1) := by decide +kernel
theorem dJ9_max_7cf53_1 : decode cJ9_max_7cf53 1 = .ok (.iload_n 1, 1) := by decide +kernel
theorem dJ9_max_7cf53_2 : decode cJ9_max_7cf53 2 = .ok (.if_icmp .lt 7, 3) := by decide +kernel
theorem dJ9_max_7cf53_5 : decode cJ9_max_7cf53 5 = .ok (.iload_n 0, 1) := by decide +kernel
theorem dJ9_max_7cf53_6 : decode cJ9_max_7cf53 6 = .ok (.goto 4, 3) := by decide +kernel
theorem dJ9_max_7cf53_9 : decode cJ9_max_7cf53 9 = .ok (.iload_n 1, 1) := by decide +kernel
theorem dJ9_max_7cf53_10 : decode cJ9_max_7cf53 10 = .ok (.ireturn, 1) := by decide +kernel
theorem dJ9_min_7cf53_0 : decode cJ9_min_7cf53 0 = .ok (.iload_n 0, 1) := by decide +kernel
theorem dJ9_min_7cf53_1 : decode cJ9_min_7cf53 1 = .ok (.iload_n 1, 1) := by decide +kernel
theorem dJ9_min_7cf53_2 : decode cJ9_min_7cf53 2 = .ok (.if_icmp .gt 7, 3) := by decide +kernel
theorem dJ9_min_7cf53_5 : decode cJ9_min_7cf53 5 = .ok (.iload_n 0, 1) := by decide +kernel
theorem dJ9_min_7cf53_6 : decode cJ9_min_7cf53 6 = .ok (.goto 4, 3) := by decide +kernel
theorem dJ9_min_7cf53_9 : decode cJ9_min_7cf53 9 = .ok (.iload_n 1, 1) := by decide +kernel
theorem dJ9_min_7cf53_10 : decode cJ9_min_7cf53 10 = .ok (.ireturn, 1) := by decide +kernel
set_option maxRecDepth 20000 in
theorem ggL_passes_X5_pass : GoodIn wsL_passes wsX5_pass := goodIn_ca (goodIn_ca (goodIn_r _ [9, 10, 11, 12, 13, 14, 8, 15, 16, 17, 18, 19, 20, 21, 22, 23, 24] (by decide +kernel) (by decide +kernel)) (goodIn_sub (fun _ h => List.mem_cons_of_mem _ (List.mem_append_left _ (List.mem_append_right _ h))) (by decide +kernel))) (goodIn_sub (fun _ h => List.mem_cons_of_mem _ (List.mem_append_right _ h)) (by decide +kernel))
set_option maxRecDepth 20000 in
theorem gL_passes_X5_pass : GoodIn wsL_passes (wsV RL 7 RX5 yX5_pass wsX5_pass) := goodIn_app (goodIn_of _ (by decide +kernel)) ggL_passes_X5_pass
theorem dL_passes_0 : decode cL_passes 0 = .ok (.aload_n 0, 1) := by decide +kernel
theorem dL_passes_1 : decode cL_passes 1 = .ok (.iload_n 1, 1) := by decide +kernel
theorem dL_passes_2 : decode cL_passes 2 = .ok (.invokevirtual 7, 3) := by decide +kernel
theorem dL_passes_5 : decode cL_passes 5 = .ok (.ireturn, 1) := by decide +kernel
theorem dL_passes_6 : decode cL_passes 6 = .ok (.astore_n 2, 1) := by decide +kernel
theorem dL_passes_7 : decode cL_passes 7 = .ok (.ldc 15, 2) := by decide +kernel
theorem dL_passes_9 : decode cL_passes 9 = .ok (.ireturn, 1) := by decide +kernel
theorem dL_passes_10 : decode cL_passes 10 = .ok (.astore_n 2, 1) := by decide +kernel
theorem dL_passes_11 : decode cL_passes 11 = .ok (.ldc 18, 2) := by decide +kernel
theorem dL_passes_13 : decode cL_passes 13 = .ok (.ireturn, 1) := by decide +kernel
set_option maxRecDepth 20000 in
theorem ggL_terms_X5_setTerm : GoodIn wsL_terms wsX5_setTerm := goodIn_ca (goodIn_r _ [7, 8, 9, 10, 11, 6, 12, 13, 14, 15, 16, 17, 18, 19, 20, 21, 22, 23] (by decide +kernel) (by decide +kernel)) (goodIn_sub (fun _ h => List.mem_cons_of_mem _ (List.mem_append_right _ h)) (by decide +kernel))
set_option maxRecDepth 20000 in
theorem gL_terms_X5_setTerm : GoodIn wsL_terms (wsV RL 19 RX5 yX5_setTerm wsX5_setTerm) := goodIn_app (goodIn_of _ (by decide +kernel)) ggL_terms_X5_setTerm
theorem dL_terms_0 : decode cL_terms 0 = .ok (.aload_n 0, 1) := by decide +kernel
theorem dL_terms_1 : decode cL_terms 1 = .ok (.iload_n 1, 1) := by decide +kernel
theorem dL_terms_2 : decode cL_terms 2 = .ok (.iload_n 2, 1) := by decide +kernel
theorem dL_terms_3 : decode cL_terms 3 = .ok (.invokevirtual 19, 3) := by decide +kernel
theorem dL_terms_6 : decode cL_terms 6 = .ok (.ireturn, 1) := by decide +kernel
theorem dL_terms_7 : decode cL_terms 7 = .ok (.astore_n 3, 1) := by decide +kernel
theorem dL_terms_8 : decode cL_terms 8 = .ok (.ldc 15, 2) := by decide +kernel
theorem dL_terms_10 : decode cL_terms 10 = .ok (.ireturn, 1) := by decide +kernel
set_option maxRecDepth 20000 in
theorem ggL_firsts_X5_putFirst : GoodIn wsL_firsts wsX5_putFirst := goodIn_ca (goodIn_r _ [7, 8, 9, 10, 6, 11, 12, 13, 14, 15, 16, 17, 18, 19, 20, 21, 22, 23, 24, 25, 26, 27, 28] (by decide +kernel) (by decide +kernel)) (goodIn_sub (fun _ h => List.mem_cons_of_mem _ (List.mem_append_right _ h)) (by decide +kernel))
set_option maxRecDepth 20000 in
theorem gL_firsts_X5_putFirst : GoodIn wsL_firsts (wsV RL 23 RX5 yX5_putFirst wsX5_putFirst) := goodIn_app (goodIn_of _ (by decide +kernel)) ggL_firsts_X5_putFirst
theorem dL_firsts_0 : decode cL_firsts 0 = .ok (.aload_n 0, 1) := by decide +kernel
theorem dL_firsts_1 : decode cL_firsts 1 = .ok (.iload_n 1, 1) := by decide +kernel
theorem dL_firsts_2 : decode cL_firsts 2 = .ok (.invokevirtual 23, 3) := by decide +kernel
theorem dL_firsts_5 : decode cL_firsts 5 = .ok (.ireturn, 1) := by decide +kernel
theorem dL_firsts_6 : decode cL_firsts 6 = .ok (.astore_n 2, 1) := by decide +kernel
theorem dL_firsts_7 : decode cL_firsts 7 = .ok (.ldc 15, 2) := by decide +kernel
theorem dL_firsts_9 : decode cL_firsts 9 = .ok (.ireturn, 1) := by decide +kernel
set_option maxRecDepth 20000 in
theorem ggL_finds_X5_find : GoodIn wsL_finds wsX5_find := goodIn_ca (goodIn_ca (goodIn_r _ [9, 10, 11, 12, 13, 14, 15, 16, 8, 17, 18, 19, 20, 21, 22, 23, 24, 25, 26, 27, 28, 29, 30, 31, 32, 33, 34, 35, 36, 37, 38, 39, 40, 41, 42, 43, 44, 45, 46, 47, 48, 49, 50, 51] (by decide +kernel) (by decide +kernel)) (goodIn_sub (fun _ h => List.mem_cons_of_mem _ (List.mem_append_left _ (List.mem_append_right _ h))) (by decide +kernel))) (goodIn_sub (fun _ h => List.mem_cons_of_mem _ (List.mem_append_right _ h)) (by decide +kernel))
set_option maxRecDepth 20000 in
theorem gL_finds_X5_find : GoodIn wsL_finds (wsV RL 26 RX5 yX5_find wsX5_find) := goodIn_app (goodIn_of _ (by decide +kernel)) ggL_finds_X5_find
theorem dL_finds_0 : decode cL_finds 0 = .ok (.aload_n 0, 1) := by decide +kernel
theorem dL_finds_1 : decode cL_finds 1 = .ok (.iload_n 1, 1) := by decide +kernel
theorem dL_finds_2 : decode cL_finds 2 = .ok (.iload_n 2, 1) := by decide +kernel
theorem dL_finds_3 : decode cL_finds 3 = .ok (.iload_n 3, 1) := by decide +kernel
theorem dL_finds_4 : decode cL_finds 4 = .ok (.iload 4, 2) := by decide +kernel
theorem dL_finds_6 : decode cL_finds 6 = .ok (.iload 5, 2) := by decide +kernel
theorem dL_finds_8 : decode cL_finds 8 = .ok (.iload 6, 2) := by decide +kernel
theorem dL_finds_10 : decode cL_finds 10 = .ok (.invokevirtual 26, 3) := by decide +kernel
theorem dL_finds_13 : decode cL_finds 13 = .ok (.ireturn, 1) := by decide +kernel
theorem dL_finds_14 : decode cL_finds 14 = .ok (.astore 7, 2) := by decide +kernel
theorem dL_finds_16 : decode cL_finds 16 = .ok (.ldc 15, 2) := by decide +kernel
theorem dL_finds_18 : decode cL_finds 18 = .ok (.ireturn, 1) := by decide +kernel
theorem dL_finds_19 : decode cL_finds 19 = .ok (.astore 7, 2) := by decide +kernel
theorem dL_finds_21 : decode cL_finds 21 = .ok (.ldc 18, 2) := by decide +kernel
theorem dL_finds_23 : decode cL_finds 23 = .ok (.ireturn, 1) := by decide +kernel
set_option maxRecDepth 20000 in
theorem ggL_strikes_X5_strike : GoodIn wsL_strikes wsX5_strike := goodIn_ca (goodIn_r _ [7, 8, 9, 10, 11, 12, 6, 13, 14, 15, 16, 17, 18, 19, 20, 21, 22, 23, 24, 25, 26, 27, 28, 29, 30] (by decide +kernel) (by decide +kernel)) (goodIn_sub (fun _ h => List.mem_cons_of_mem _ (List.mem_append_right _ h)) (by decide +kernel))
set_option maxRecDepth 20000 in
theorem gL_strikes_X5_strike : GoodIn wsL_strikes (wsV RL 30 RX5 yX5_strike wsX5_strike) := goodIn_app (goodIn_of _ (by decide +kernel)) ggL_strikes_X5_strike
theorem dL_strikes_0 : decode cL_strikes 0 = .ok (.aload_n 0, 1) := by decide +kernel
theorem dL_strikes_1 : decode cL_strikes 1 = .ok (.iload_n 1, 1) := by decide +kernel
theorem dL_strikes_2 : decode cL_strikes 2 = .ok (.invokevirtual 30, 3) := by decide +kernel
theorem dL_strikes_5 : decode cL_strikes 5 = .ok (.ifCond .eq 7, 3) := by decide +kernel
theorem dL_strikes_8 : decode cL_strikes 8 = .ok (.iconst 1, 1) := by decide +kernel
theorem dL_strikes_9 : decode cL_strikes 9 = .ok (.goto 4, 3) := by decide +kernel
theorem dL_strikes_12 : decode cL_strikes 12 = .ok (.iconst 0, 1) := by decide +kernel
theorem dL_strikes_13 : decode cL_strikes 13 = .ok (.ireturn, 1) := by decide +kernel
theorem dL_strikes_14 : decode cL_strikes 14 = .ok (.astore_n 2, 1) := by decide +kernel
theorem dL_strikes_15 : decode cL_strikes 15 = .ok (.ldc 36, 2) := by decide +kernel
theorem dL_strikes_17 : decode cL_strikes 17 = .ok (.ireturn, 1) := by decide +kernel
set_option maxRecDepth 20000 in
theorem ggL_tells_X5_tell : GoodIn wsL_tells wsX5_tell := goodIn_ca (goodIn_ca (goodIn_r _ [9, 10, 11, 12, 13, 14, 8, 15, 16, 17, 18, 19, 20, 21, 22, 23, 24, 25, 26, 27, 28, 29, 30, 31, 32, 33, 34, 35, 36, 37, 38, 39, 40] (by decide +kernel) (by decide +kernel)) (goodIn_sub (fun _ h => List.mem_cons_of_mem _ (List.mem_append_left _ (List.mem_append_right _ h))) (by decide +kernel))) (goodIn_sub (fun _ h => List.mem_cons_of_mem _ (List.mem_append_right _ h)) (by decide +kernel))
set_option maxRecDepth 20000 in
theorem gL_tells_X5_tell : GoodIn wsL_tells (wsV RL 37 RX5 yX5_tell wsX5_tell) := goodIn_app (goodIn_of _ (by decide +kernel)) ggL_tells_X5_tell
theorem dL_tells_0 : decode cL_tells 0 = .ok (.aload_n 0, 1) := by decide +kernel
theorem dL_tells_1 : decode cL_tells 1 = .ok (.iload_n 1, 1) := by decide +kernel
theorem dL_tells_2 : decode cL_tells 2 = .ok (.iload_n 2, 1) := by decide +kernel
theorem dL_tells_3 : decode cL_tells 3 = .ok (.iload_n 3, 1) := by decide +kernel
theorem dL_tells_4 : decode cL_tells 4 = .ok (.invokevirtual 37, 3) := by decide +kernel
theorem dL_tells_7 : decode cL_tells 7 = .ok (.ireturn, 1) := by decide +kernel
theorem dL_tells_8 : decode cL_tells 8 = .ok (.astore 4, 2) := by decide +kernel
theorem dL_tells_10 : decode cL_tells 10 = .ok (.ldc 36, 2) := by decide +kernel
theorem dL_tells_12 : decode cL_tells 12 = .ok (.ireturn, 1) := by decide +kernel
theorem dL_tells_13 : decode cL_tells 13 = .ok (.astore 4, 2) := by decide +kernel
theorem dL_tells_15 : decode cL_tells 15 = .ok (.ldc 15, 2) := by decide +kernel
theorem dL_tells_17 : decode cL_tells 17 = .ok (.ireturn, 1) := by decide +kernel
set_option maxRecDepth 20000 in
theorem ggL_counts_X5_counts : GoodIn wsL_counts wsX5_counts := goodIn_ca (goodIn_ca (goodIn_r _ [9, 10, 11, 12, 13, 14, 8, 15, 16, 17, 18, 19, 20, 21, 22, 23, 24, 25, 26, 27, 28, 29, 30, 31, 32, 33, 34, 35, 36, 37, 38, 39, 40, 41, 42, 43, 44, 45, 46, 47, 48, 49, 50, 51] (by decide +kernel) (by decide +kernel)) (goodIn_sub (fun _ h => List.mem_cons_of_mem _ (List.mem_append_left _ (List.mem_append_right _ h))) (by decide +kernel))) (goodIn_sub (fun _ h => List.mem_cons_of_mem _ (List.mem_append_right _ h)) (by decide +kernel))
set_option maxRecDepth 20000 in
theorem gL_counts_X5_counts : GoodIn wsL_counts (wsV RL 41 RX5 yX5_counts wsX5_counts) := goodIn_app (goodIn_of _ (by decide +kernel)) ggL_counts_X5_counts
theorem dL_counts_0 : decode cL_counts 0 = .ok (.aload_n 0, 1) := by decide +kernel
theorem dL_counts_1 : decode cL_counts 1 = .ok (.iload_n 1, 1) := by decide +kernel
theorem dL_counts_2 : decode cL_counts 2 = .ok (.iload_n 2, 1) := by decide +kernel
theorem dL_counts_3 : decode cL_counts 3 = .ok (.invokevirtual 41, 3) := by decide +kernel
theorem dL_counts_6 : decode cL_counts 6 = .ok (.ifCond .eq 7, 3) := by decide +kernel
theorem dL_counts_9 : decode cL_counts 9 = .ok (.iconst 1, 1) := by decide +kernel
theorem dL_counts_10 : decode cL_counts 10 = .ok (.goto 4, 3) := by decide +kernel
theorem dL_counts_13 : decode cL_counts 13 = .ok (.iconst 0, 1) := by decide +kernel
theorem dL_counts_14 : decode cL_counts 14 = .ok (.ireturn, 1) := by decide +kernel
theorem dL_counts_15 : decode cL_counts 15 = .ok (.astore_n 3, 1) := by decide +kernel
theorem dL_counts_16 : decode cL_counts 16 = .ok (.ldc 36, 2) := by decide +kernel
theorem dL_counts_18 : decode cL_counts 18 = .ok (.ireturn, 1) := by decide +kernel
theorem dL_counts_19 : decode cL_counts 19 = .ok (.astore_n 3, 1) := by decide +kernel
theorem dL_counts_20 : decode cL_counts 20 = .ok (.ldc 15, 2) := by decide +kernel
theorem dL_counts_22 : decode cL_counts 22 = .ok (.ireturn, 1) := by decide +kernel
set_option maxRecDepth 20000 in
theorem ggL_things_X5_things : GoodIn wsL_things wsX5_things := goodIn_ca (goodIn_r _ [7, 8, 9, 10, 11, 12, 6, 13, 14, 15, 16, 17, 18, 19, 20, 21, 22, 23, 24, 25, 26, 27, 28, 29, 30, 31, 32, 33, 34, 35, 36, 37, 38, 39, 40, 41, 42, 43, 44, 45, 46, 47, 48, 49, 50, 51, 52, 53, 54, 55, 56, 57, 58, 59, 60, 61, 62, 63, 64, 65, 66, 67, 68, 69, 70, 71, 72, 73, 74, 75, 76, 77, 78, 79, 80, 81, 82, 83, 84, 85, 86, 87, 88] (by decide +kernel) (by decide +kernel)) (goodIn_sub (fun _ h => List.mem_cons_of_mem _ (List.mem_append_right _ h)) (by decide +kernel))
set_option maxRecDepth 20000 in
theorem gL_things_X5_things : GoodIn wsL_things (wsV RL 45 RX5 yX5_things wsX5_things) := goodIn_app (goodIn_of _ (by decide +kernel)) ggL_things_X5_things
theorem dL_things_0 : decode cL_things 0 = .ok (.aload_n 0, 1) := by decide +kernel
theorem dL_things_1 : decode cL_things 1 = .ok (.iload_n 1, 1) := by decide +kernel
theorem dL_things_2 : decode cL_things 2 = .ok (.invokevirtual 45, 3) := by decide +kernel
theorem dL_things_5 : decode cL_things 5 = .ok (.ireturn, 1) := by decide +kernel
theorem dL_things_6 : decode cL_things 6 = .ok (.astore_n 2, 1) := by decide +kernel
theorem dL_things_7 : decode cL_things 7 = .ok (.ldc 15, 2) := by decide +kernel
theorem dL_things_9 : decode cL_things 9 = .ok (.ireturn, 1) := by decide +kernel
set_option maxRecDepth 20000 in
theorem ggL_thing_X5_thingOf : GoodIn wsL_thing wsX5_thingOf := goodIn_ca (goodIn_ca (goodIn_ca (goodIn_r _ [11, 12, 13, 14, 15, 16, 10, 17, 18, 19, 20, 21, 22, 23, 24, 25, 26, 27, 28, 29, 30, 31, 32, 33, 34, 35, 36, 37, 38, 39, 40, 41, 42, 43, 44, 45, 46, 47, 48, 49, 50, 51, 52, 53, 54, 55, 56, 57, 58, 59, 60, 61, 62, 63, 64, 65, 66, 67, 68, 69, 70, 71, 72, 73, 74, 75, 76, 77, 78, 79, 80, 81, 82, 83, 84, 85, 86, 87, 88, 89, 90, 91, 92, 93, 94, 95, 96, 97, 98, 99, 100, 101] (by decide +kernel) (by decide +kernel)) (goodIn_sub (fun _ h => List.mem_cons_of_mem _ (List.mem_append_left _ (List.mem_append_left _ (List.mem_append_right _ h)))) (by decide +kernel))) (goodIn_sub (fun _ h => List.mem_cons_of_mem _ (List.mem_append_left _ (List.mem_append_right _ h))) (by decide +kernel))) (goodIn_sub (fun _ h => List.mem_cons_of_mem _ (List.mem_append_right _ h)) (by decide +kernel))
set_option maxRecDepth 20000 in
theorem gL_thing_X5_thingOf : GoodIn wsL_thing (wsV RL 48 RX5 yX5_thingOf wsX5_thingOf) := goodIn_app (goodIn_of _ (by decide +kernel)) ggL_thing_X5_thingOf
theorem dL_thing_0 : decode cL_thing 0 = .ok (.aload_n 0, 1) := by decide +kernel
theorem dL_thing_1 : decode cL_thing 1 = .ok (.iload_n 1, 1) := by decide +kernel
theorem dL_thing_2 : decode cL_thing 2 = .ok (.iload_n 2, 1) := by decide +kernel
theorem dL_thing_3 : decode cL_thing 3 = .ok (.invokevirtual 48, 3) := by decide +kernel
theorem dL_thing_6 : decode cL_thing 6 = .ok (.ireturn, 1) := by decide +kernel
theorem dL_thing_7 : decode cL_thing 7 = .ok (.astore_n 3, 1) := by decide +kernel
theorem dL_thing_8 : decode cL_thing 8 = .ok (.ldc 36, 2) := by decide +kernel
theorem dL_thing_10 : decode cL_thing 10 = .ok (.ireturn, 1) := by decide +kernel
theorem dL_thing_11 : decode cL_thing 11 = .ok (.astore_n 3, 1) := by decide +kernel
theorem dL_thing_12 : decode cL_thing 12 = .ok (.ldc 15, 2) := by decide +kernel
theorem dL_thing_14 : decode cL_thing 14 = .ok (.ireturn, 1) := by decide +kernel
theorem dL_thing_15 : decode cL_thing 15 = .ok (.astore_n 3, 1) := by decide +kernel
theorem dL_thing_16 : decode cL_thing 16 = .ok (.ldc 53, 2) := by decide +kernel
theorem dL_thing_18 : decode cL_thing 18 = .ok (.ireturn, 1) := by decide +kernel
set_option maxRecDepth 20000 in
theorem ggL_value_X5_value : GoodIn wsL_value wsX5_value := goodIn_ca (goodIn_ca (goodIn_ca (goodIn_r _ [11, 12, 13, 14, 15, 16, 10, 17, 18, 19, 20, 21, 22, 23, 24, 25, 26, 27, 28, 29, 30, 31, 32, 33, 34, 35, 36, 37, 38, 39, 40, 41, 42, 43, 44, 45, 46, 47, 48, 49, 50, 51, 52, 53, 54, 55, 56, 57, 58, 59, 60, 61, 62, 63, 64, 65, 66, 67, 68, 69, 70, 71, 72, 73, 74, 75, 76, 77, 78, 79, 80, 81, 82, 83, 84, 85, 86, 87, 88, 89, 90, 91, 92, 93, 94, 95, 96, 97, 98, 99, 100, 101, 102, 103, 104, 105, 106, 107, 108, 109, 110, 111, 112, 113, 114, 115, 116, 117, 118, 119] (by decide +kernel) (by decide +kernel)) (goodIn_sub (fun _ h => List.mem_cons_of_mem _ (List.mem_append_left _ (List.mem_append_left _ (List.mem_append_right _ h)))) (by decide +kernel))) (goodIn_sub (fun _ h => List.mem_cons_of_mem _ (List.mem_append_left _ (List.mem_append_right _ h))) (by decide +kernel))) (goodIn_sub (fun _ h => List.mem_cons_of_mem _ (List.mem_append_right _ h)) (by decide +kernel))
set_option maxRecDepth 20000 in
theorem gL_value_X5_value : GoodIn wsL_value (wsV RL 54 RX5 yX5_value wsX5_value) := goodIn_app (goodIn_of _ (by decide +kernel)) ggL_value_X5_value
theorem dL_value_0 : decode cL_value 0 = .ok (.aload_n 0, 1) := by decide +kernel
theorem dL_value_1 : decode cL_value 1 = .ok (.iload_n 1, 1) := by decide +kernel
theorem dL_value_2 : decode cL_value 2 = .ok (.iload_n 2, 1) := by decide +kernel
theorem dL_value_3 : decode cL_value 3 = .ok (.iload_n 3, 1) := by decide +kernel
theorem dL_value_4 : decode cL_value 4 = .ok (.invokevirtual 54, 3) := by decide +kernel
theorem dL_value_7 : decode cL_value 7 = .ok (.ireturn, 1) := by decide +kernel
theorem dL_value_8 : decode cL_value 8 = .ok (.astore 4, 2) := by decide +kernel
theorem dL_value_10 : decode cL_value 10 = .ok (.ldc 36, 2) := by decide +kernel
theorem dL_value_12 : decode cL_value 12 = .ok (.ireturn, 1) := by decide +kernel
theorem dL_value_13 : decode cL_value 13 = .ok (.astore 4, 2) := by decide +kernel
theorem dL_value_15 : decode cL_value 15 = .ok (.ldc 15, 2) := by decide +kernel
theorem dL_value_17 : decode cL_value 17 = .ok (.ireturn, 1) := by decide +kernel
theorem dL_value_18 : decode cL_value 18 = .ok (.astore 4, 2) := by decide +kernel
theorem dL_value_20 : decode cL_value 20 = .ok (.ldc 53, 2) := by decide +kernel
theorem dL_value_22 : decode cL_value 22 = .ok (.ireturn, 1) := by decide +kernel
set_option maxRecDepth 20000 in
theorem ggL_disputed_X5_disputed : GoodIn wsL_disputed wsX5_disputed := goodIn_ca (goodIn_r _ [7, 8, 9, 10, 11, 12, 6, 13, 14, 15, 16, 17, 18, 19, 20, 21, 22, 23, 24, 25, 26, 27, 28, 29, 30, 31, 32, 33, 34, 35, 36, 37, 38, 39, 40, 41, 42, 43, 44, 45, 46, 47, 48, 49, 50, 51, 52, 53, 54, 55, 56, 57, 58, 59, 60, 61, 62, 63, 64, 65, 66, 67, 68, 69, 70, 71, 72, 73, 74, 75, 76, 77, 78, 79, 80, 81, 82, 83, 84, 85, 86, 87, 88, 89, 90, 91, 92, 93, 94, 95, 96, 97, 98, 99, 100] (by decide +kernel) (by decide +kernel)) (goodIn_sub (fun _ h => List.mem_cons_of_mem _ (List.mem_append_right _ h)) (by decide +kernel))
set_option maxRecDepth 20000 in
theorem gL_disputed_X5_disputed : GoodIn wsL_disputed (wsV RL 57 RX5 yX5_disputed wsX5_disputed) := goodIn_app (goodIn_of _ (by decide +kernel)) ggL_disputed_X5_disputed
theorem dL_disputed_0 : decode cL_disputed 0 = .ok (.aload_n 0, 1) := by decide +kernel
theorem dL_disputed_1 : decode cL_disputed 1 = .ok (.iload_n 1, 1) := by decide +kernel
theorem dL_disputed_2 : decode cL_disputed 2 = .ok (.iload_n 2, 1) := by decide +kernel
theorem dL_disputed_3 : decode cL_disputed 3 = .ok (.invokevirtual 57, 3) := by decide +kernel
theorem dL_disputed_6 : decode cL_disputed 6 = .ok (.ireturn, 1) := by decide +kernel
theorem dL_disputed_7 : decode cL_disputed 7 = .ok (.astore_n 3, 1) := by decide +kernel
theorem dL_disputed_8 : decode cL_disputed 8 = .ok (.ldc 15, 2) := by decide +kernel
theorem dL_disputed_10 : decode cL_disputed 10 = .ok (.ireturn, 1) := by decide +kernel
set_option maxRecDepth 20000 in
theorem ggL_links_X5_link : GoodIn wsL_links wsX5_link := goodIn_ca (goodIn_ca (goodIn_ca (goodIn_r _ [11, 12, 13, 14, 15, 16, 17, 18, 10, 19, 20, 21, 22, 23, 24, 25, 26, 27, 28, 29, 30, 31, 32, 33, 34, 35, 36, 37, 38, 39, 40, 41, 42, 43, 44, 45, 46, 47, 48, 49, 50, 51, 52, 53, 54, 55, 56, 57, 58, 59] (by decide +kernel) (by decide +kernel)) (goodIn_sub (fun _ h => List.mem_cons_of_mem _ (List.mem_append_left _ (List.mem_append_left _ (List.mem_append_right _ h)))) (by decide +kernel))) (goodIn_sub (fun _ h => List.mem_cons_of_mem _ (List.mem_append_left _ (List.mem_append_right _ h))) (by decide +kernel))) (goodIn_sub (fun _ h => List.mem_cons_of_mem _ (List.mem_append_right _ h)) (by decide +kernel))
set_option maxRecDepth 20000 in
theorem gL_links_X5_link : GoodIn wsL_links (wsV RL 60 RX5 yX5_link wsX5_link) := goodIn_app (goodIn_of _ (by decide +kernel)) ggL_links_X5_link
theorem dL_links_0 : decode cL_links 0 = .ok (.aload_n 0, 1) := by decide +kernel
theorem dL_links_1 : decode cL_links 1 = .ok (.iload_n 1, 1) := by decide +kernel
theorem dL_links_2 : decode cL_links 2 = .ok (.iload_n 2, 1) := by decide +kernel
theorem dL_links_3 : decode cL_links 3 = .ok (.iload_n 3, 1) := by decide +kernel
theorem dL_links_4 : decode cL_links 4 = .ok (.invokevirtual 60, 3) := by decide +kernel
theorem dL_links_7 : decode cL_links 7 = .ok (.ireturn, 1) := by decide +kernel
theorem dL_links_8 : decode cL_links 8 = .ok (.astore 4, 2) := by decide +kernel
theorem dL_links_10 : decode cL_links 10 = .ok (.ldc 36, 2) := by decide +kernel
theorem dL_links_12 : decode cL_links 12 = .ok (.ireturn, 1) := by decide +kernel
theorem dL_links_13 : decode cL_links 13 = .ok (.astore 4, 2) := by decide +kernel
theorem dL_links_15 : decode cL_links 15 = .ok (.ldc 15, 2) := by decide +kernel
theorem dL_links_17 : decode cL_links 17 = .ok (.ireturn, 1) := by decide +kernel
theorem dL_links_18 : decode cL_links 18 = .ok (.astore 4, 2) := by decide +kernel
theorem dL_links_20 : decode cL_links 20 = .ok (.ldc 18, 2) := by decide +kernel
theorem dL_links_22 : decode cL_links 22 = .ok (.ireturn, 1) := by decide +kernel
set_option maxRecDepth 20000 in
theorem ggL_impact_X5_impact : GoodIn wsL_impact wsX5_impact := goodIn_ca (goodIn_ca (goodIn_ca (goodIn_r _ [11, 12, 13, 14, 15, 16, 17, 10, 18, 19, 20, 21, 22, 23, 24, 25, 26, 27, 28, 29, 30, 31, 32, 33, 34, 35, 36, 37, 38, 39, 40, 41, 42, 43, 44, 45, 46, 47, 48, 49, 50, 51, 52, 53, 54, 55, 56, 57, 58, 59, 60, 61, 62, 63, 64, 65, 66, 67, 68, 69, 70, 71, 72, 73, 74, 75, 76, 77, 78, 79, 80, 81, 82, 83, 84, 85, 86, 87, 88, 89, 90, 91, 92, 93, 94, 95, 96, 97, 98, 99, 100, 101, 102, 103, 104, 105, 106, 107, 108, 109, 110, 111, 112, 113, 114, 115, 116, 117, 118, 119, 120, 121, 122, 123, 124, 125, 126, 127, 128, 129, 130, 131, 132, 133, 134] (by decide +kernel) (by decide +kernel)) (goodIn_sub (fun _ h => List.mem_cons_of_mem _ (List.mem_append_left _ (List.mem_append_left _ (List.mem_append_right _ h)))) (by decide +kernel))) (goodIn_sub (fun _ h => List.mem_cons_of_mem _ (List.mem_append_left _ (List.mem_append_right _ h))) (by decide +kernel))) (goodIn_sub (fun _ h => List.mem_cons_of_mem _ (List.mem_append_right _ h)) (by decide +kernel))
set_option maxRecDepth 20000 in
theorem gL_impact_X5_impact : GoodIn wsL_impact (wsV RL 63 RX5 yX5_impact wsX5_impact) := goodIn_app (goodIn_of _ (by decide +kernel)) ggL_impact_X5_impact
theorem dL_impact_0 : decode cL_impact 0 = .ok (.aload_n 0, 1) := by decide +kernel
theorem dL_impact_1 : decode cL_impact 1 = .ok (.iload_n 1, 1) := by decide +kernel
theorem dL_impact_2 : decode cL_impact 2 = .ok (.iload_n 2, 1) := by decide +kernel
theorem dL_impact_3 : decode cL_impact 3 = .ok (.invokevirtual 63, 3) := by decide +kernel
theorem dL_impact_6 : decode cL_impact 6 = .ok (.ireturn, 1) := by decide +kernel
theorem dL_impact_7 : decode cL_impact 7 = .ok (.astore_n 3, 1) := by decide +kernel
theorem dL_impact_8 : decode cL_impact 8 = .ok (.ldc 36, 2) := by decide +kernel
theorem dL_impact_10 : decode cL_impact 10 = .ok (.ireturn, 1) := by decide +kernel
theorem dL_impact_11 : decode cL_impact 11 = .ok (.astore_n 3, 1) := by decide +kernel
theorem dL_impact_12 : decode cL_impact 12 = .ok (.ldc 15, 2) := by decide +kernel
theorem dL_impact_14 : decode cL_impact 14 = .ok (.ireturn, 1) := by decide +kernel
theorem dL_impact_15 : decode cL_impact 15 = .ok (.astore_n 3, 1) := by decide +kernel
theorem dL_impact_16 : decode cL_impact 16 = .ok (.ldc 53, 2) := by decide +kernel
theorem dL_impact_18 : decode cL_impact 18 = .ok (.ireturn, 1) := by decide +kernel
set_option maxRecDepth 20000 in
theorem ggL_fails_X5_failsWith : GoodIn wsL_fails wsX5_failsWith := goodIn_ca (goodIn_ca (goodIn_ca (goodIn_r _ [11, 12, 13, 14, 15, 16, 17, 18, 10, 19, 20, 21, 22, 23, 24, 25, 26, 27, 28, 29, 30, 31, 32, 33, 34, 35, 36, 37, 38, 39, 40, 41, 42, 43, 44, 45, 46, 47, 48, 49, 50, 51, 52, 53, 54, 55, 56, 57, 58, 59, 60, 61, 62, 63, 64, 65, 66, 67, 68, 69, 70, 71, 72, 73, 74, 75, 76, 77, 78, 79, 80, 81, 82, 83, 84, 85, 86, 87, 88, 89, 90, 91, 92, 93, 94, 95, 96, 97, 98, 99, 100, 101, 102, 103, 104, 105, 106, 107, 108, 109, 110, 111, 112, 113, 114, 115, 116, 117, 118, 119, 120, 121, 122, 123, 124, 125, 126, 127, 128, 129, 130, 131] (by decide +kernel) (by decide +kernel)) (goodIn_sub (fun _ h => List.mem_cons_of_mem _ (List.mem_append_left _ (List.mem_append_left _ (List.mem_append_right _ h)))) (by decide +kernel))) (goodIn_sub (fun _ h => List.mem_cons_of_mem _ (List.mem_append_left _ (List.mem_append_right _ h))) (by decide +kernel))) (goodIn_sub (fun _ h => List.mem_cons_of_mem _ (List.mem_append_right _ h)) (by decide +kernel))
set_option maxRecDepth 20000 in
theorem gL_fails_X5_failsWith : GoodIn wsL_fails (wsV RL 66 RX5 yX5_failsWith wsX5_failsWith) := goodIn_app (goodIn_of _ (by decide +kernel)) ggL_fails_X5_failsWith
theorem dL_fails_0 : decode cL_fails 0 = .ok (.aload_n 0, 1) := by decide +kernel
theorem dL_fails_1 : decode cL_fails 1 = .ok (.iload_n 1, 1) := by decide +kernel
theorem dL_fails_2 : decode cL_fails 2 = .ok (.iload_n 2, 1) := by decide +kernel
theorem dL_fails_3 : decode cL_fails 3 = .ok (.iload_n 3, 1) := by decide +kernel
theorem dL_fails_4 : decode cL_fails 4 = .ok (.invokevirtual 66, 3) := by decide +kernel
theorem dL_fails_7 : decode cL_fails 7 = .ok (.ifCond .eq 7, 3) := by decide +kernel
theorem dL_fails_10 : decode cL_fails 10 = .ok (.iconst 1, 1) := by decide +kernel
theorem dL_fails_11 : decode cL_fails 11 = .ok (.goto 4, 3) := by decide +kernel
theorem dL_fails_14 : decode cL_fails 14 = .ok (.iconst 0, 1) := by decide +kernel
theorem dL_fails_15 : decode cL_fails 15 = .ok (.ireturn, 1) := by decide +kernel
theorem dL_fails_16 : decode cL_fails 16 = .ok (.astore 4, 2) := by decide +kernel
theorem dL_fails_18 : decode cL_fails 18 = .ok (.ldc 36, 2) := by decide +kernel
theorem dL_fails_20 : decode cL_fails 20 = .ok (.ireturn, 1) := by decide +kernel
theorem dL_fails_21 : decode cL_fails 21 = .ok (.astore 4, 2) := by decide +kernel
theorem dL_fails_23 : decode cL_fails 23 = .ok (.ldc 15, 2) := by decide +kernel
theorem dL_fails_25 : decode cL_fails 25 = .ok (.ireturn, 1) := by decide +kernel
theorem dL_fails_26 : decode cL_fails 26 = .ok (.astore 4, 2) := by decide +kernel
theorem dL_fails_28 : decode cL_fails 28 = .ok (.ldc 53, 2) := by decide +kernel
theorem dL_fails_30 : decode cL_fails 30 = .ok (.ireturn, 1) := by decide +kernel
set_option maxRecDepth 20000 in
theorem ggL_wishes_X5_wish : GoodIn wsL_wishes wsX5_wish := goodIn_ca (goodIn_ca (goodIn_r _ [9, 10, 11, 12, 13, 14, 15, 8, 16, 17, 18, 19, 20, 21, 22, 23, 24, 25, 26, 27, 28, 29, 30, 31, 32, 33, 34, 35, 36, 37, 38, 39, 40, 41, 42, 43] (by decide +kernel) (by decide +kernel)) (goodIn_sub (fun _ h => List.mem_cons_of_mem _ (List.mem_append_left _ (List.mem_append_right _ h))) (by decide +kernel))) (goodIn_sub (fun _ h => List.mem_cons_of_mem _ (List.mem_append_right _ h)) (by decide +kernel))
set_option maxRecDepth 20000 in
theorem gL_wishes_X5_wish : GoodIn wsL_wishes (wsV RL 70 RX5 yX5_wish wsX5_wish) := goodIn_app (goodIn_of _ (by decide +kernel)) ggL_wishes_X5_wish
theorem dL_wishes_0 : decode cL_wishes 0 = .ok (.aload_n 0, 1) := by decide +kernel
theorem dL_wishes_1 : decode cL_wishes 1 = .ok (.iload_n 1, 1) := by decide +kernel
theorem dL_wishes_2 : decode cL_wishes 2 = .ok (.iload_n 2, 1) := by decide +kernel
theorem dL_wishes_3 : decode cL_wishes 3 = .ok (.iload_n 3, 1) := by decide +kernel
theorem dL_wishes_4 : decode cL_wishes 4 = .ok (.iload 4, 2) := by decide +kernel
theorem dL_wishes_6 : decode cL_wishes 6 = .ok (.invokevirtual 70, 3) := by decide +kernel
theorem dL_wishes_9 : decode cL_wishes 9 = .ok (.ireturn, 1) := by decide +kernel
theorem dL_wishes_10 : decode cL_wishes 10 = .ok (.astore 5, 2) := by decide +kernel
theorem dL_wishes_12 : decode cL_wishes 12 = .ok (.ldc 15, 2) := by decide +kernel
theorem dL_wishes_14 : decode cL_wishes 14 = .ok (.ireturn, 1) := by decide +kernel
theorem dL_wishes_15 : decode cL_wishes 15 = .ok (.astore 5, 2) := by decide +kernel
theorem dL_wishes_17 : decode cL_wishes 17 = .ok (.ldc 18, 2) := by decide +kernel
theorem dL_wishes_19 : decode cL_wishes 19 = .ok (.ireturn, 1) := by decide +kernel
set_option maxRecDepth 20000 in
theorem ggL_differing_X5_differing : GoodIn wsL_differing wsX5_differing := goodIn_ca (goodIn_ca (goodIn_r _ [9, 10, 11, 12, 13, 14, 15, 16, 17, 18, 8, 19, 20, 21, 22, 23, 24, 25, 26, 27, 28, 29, 30, 31, 32, 33, 34, 35, 36, 37, 38, 39, 40, 41, 42, 43, 44, 45, 46, 47, 48, 49, 50, 51, 52, 53, 54, 55, 56, 57, 58, 59, 60, 61, 62, 63, 64, 65, 66, 67, 68, 69, 70, 71, 72, 73, 74, 75, 76, 77, 78, 79, 80, 81, 82, 83, 84, 85, 86, 87, 88, 89, 90, 91, 92, 93, 94, 95, 96, 97, 98, 99, 100, 101, 102, 103, 104, 105, 106, 107, 108, 109, 110, 111, 112, 113, 114, 115, 116, 117, 118, 119, 120, 121, 122, 123, 124, 125, 126, 127, 128] (by decide +kernel) (by decide +kernel)) (goodIn_sub (fun _ h => List.mem_cons_of_mem _ (List.mem_append_left _ (List.mem_append_right _ h))) (by decide +kernel))) (goodIn_sub (fun _ h => List.mem_cons_of_mem _ (List.mem_append_right _ h)) (by decide +kernel))
set_option maxRecDepth 20000 in
theorem gL_differing_X5_differing : GoodIn wsL_differing (wsV RL 74 RX5 yX5_differing wsX5_differing) := goodIn_app (goodIn_of _ (by decide +kernel)) ggL_differing_X5_differing
theorem dL_differing_0 : decode cL_differing 0 = .ok (.aload_n 0, 1) := by decide +kernel
theorem dL_differing_1 : decode cL_differing 1 = .ok (.iload_n 1, 1) := by decide +kernel
theorem dL_differing_2 : decode cL_differing 2 = .ok (.iload_n 2, 1) := by decide +kernel
theorem dL_differing_3 : decode cL_differing 3 = .ok (.invokevirtual 74, 3) := by decide +kernel
theorem dL_differing_6 : decode cL_differing 6 = .ok (.ireturn, 1) := by decide +kernel
theorem dL_differing_7 : decode cL_differing 7 = .ok (.astore_n 3, 1) := by decide +kernel
theorem dL_differing_8 : decode cL_differing 8 = .ok (.ldc 36, 2) := by decide +kernel
theorem dL_differing_10 : decode cL_differing 10 = .ok (.ireturn, 1) := by decide +kernel
theorem dL_differing_11 : decode cL_differing 11 = .ok (.astore_n 3, 1) := by decide +kernel
theorem dL_differing_12 : decode cL_differing 12 = .ok (.ldc 15, 2) := by decide +kernel
theorem dL_differing_14 : decode cL_differing 14 = .ok (.ireturn, 1) := by decide +kernel
set_option maxRecDepth 20000 in
theorem ggL_changed_X5_changed : GoodIn wsL_changed wsX5_changed := goodIn_ca (goodIn_r _ [7, 8, 9, 10, 11, 12, 13, 6, 14, 15, 16, 17, 18, 19, 20, 21, 22, 23, 24, 25, 26, 27, 28, 29, 30, 31, 32, 33, 34, 35, 36, 37, 38, 39, 40, 41, 42, 43, 44, 45, 46, 47, 48, 49, 50, 51, 52, 53, 54, 55, 56, 57, 58, 59, 60, 61, 62, 63, 64, 65, 66, 67, 68, 69, 70, 71, 72, 73, 74, 75, 76, 77, 78, 79, 80, 81, 82, 83, 84, 85, 86, 87, 88, 89, 90, 91, 92, 93, 94, 95, 96, 97, 98, 99, 100, 101, 102, 103, 104, 105, 106, 107, 108] (by decide +kernel) (by decide +kernel)) (goodIn_sub (fun _ h => List.mem_cons_of_mem _ (List.mem_append_right _ h)) (by decide +kernel))
set_option maxRecDepth 20000 in
theorem gL_changed_X5_changed : GoodIn wsL_changed (wsV RL 77 RX5 yX5_changed wsX5_changed) := goodIn_app (goodIn_of _ (by decide +kernel)) ggL_changed_X5_changed
theorem dL_changed_0 : decode cL_changed 0 = .ok (.aload_n 0, 1) := by decide +kernel
theorem dL_changed_1 : decode cL_changed 1 = .ok (.iload_n 1, 1) := by decide +kernel
theorem dL_changed_2 : decode cL_changed 2 = .ok (.iload_n 2, 1) := by decide +kernel
theorem dL_changed_3 : decode cL_changed 3 = .ok (.iload_n 3, 1) := by decide +kernel
theorem dL_changed_4 : decode cL_changed 4 = .ok (.invokevirtual 77, 3) := by decide +kernel
theorem dL_changed_7 : decode cL_changed 7 = .ok (.ireturn, 1) := by decide +kernel
theorem dL_changed_8 : decode cL_changed 8 = .ok (.astore 4, 2) := by decide +kernel
theorem dL_changed_10 : decode cL_changed 10 = .ok (.ldc 15, 2) := by decide +kernel
theorem dL_changed_12 : decode cL_changed 12 = .ok (.ireturn, 1) := by decide +kernel
theorem dL_drawn_0 : decode cL_drawn 0 = .ok (.iload_n 1, 1) := by decide +kernel
theorem dL_drawn_1 : decode cL_drawn 1 = .ok (.aload_n 0, 1) := by decide +kernel
theorem dL_drawn_2 : decode cL_drawn 2 = .ok (.arraylength, 1) := by decide +kernel
theorem dL_drawn_3 : decode cL_drawn 3 = .ok (.if_icmp .ge 9, 3) := by decide +kernel
theorem dL_drawn_6 : decode cL_drawn 6 = .ok (.aload_n 0, 1) := by decide +kernel
theorem dL_drawn_7 : decode cL_drawn 7 = .ok (.iload_n 1, 1) := by decide +kernel
theorem dL_drawn_8 : decode cL_drawn 8 = .ok (.iaload, 1) := by decide +kernel
theorem dL_drawn_9 : decode cL_drawn 9 = .ok (.goto 13, 3) := by decide +kernel
theorem dL_drawn_12 : decode cL_drawn 12 = .ok (.ldc 80, 2) := by decide +kernel
theorem dL_drawn_14 : decode cL_drawn 14 = .ok (.iload_n 1, 1) := by decide +kernel
theorem dL_drawn_15 : decode cL_drawn 15 = .ok (.iconst 3, 1) := by decide +kernel
theorem dL_drawn_16 : decode cL_drawn 16 = .ok (.iadd, 1) := by decide +kernel
theorem dL_drawn_17 : decode cL_drawn 17 = .ok (.imul, 1) := by decide +kernel
theorem dL_drawn_18 : decode cL_drawn 18 = .ok (.sipush 13751, 3) := by decide +kernel
theorem dL_drawn_21 : decode cL_drawn 21 = .ok (.iadd, 1) := by decide +kernel
theorem dL_drawn_22 : decode cL_drawn 22 = .ok (.ldc 81, 2) := by decide +kernel
theorem dL_drawn_24 : decode cL_drawn 24 = .ok (.iand, 1) := by decide +kernel
theorem dL_drawn_25 : decode cL_drawn 25 = .ok (.ireturn, 1) := by decide +kernel
set_option maxRecDepth 20000 in
theorem ggL_refuses_L_passes : GoodIn wsL_refuses wsL_passes := goodIn_ca (goodIn_ca (goodIn_r _ [7, 8, 9, 1, 10, 11, 12, 13, 14, 15, 16, 17, 18, 19, 20, 21, 22, 23, 323, 324, 325, 326, 327, 328, 329] (by decide +kernel) (by decide +kernel)) (goodIn_sub (fun _ h => List.mem_cons_of_mem _ (List.mem_append_left _ (List.mem_append_left _ (List.mem_append_left _ (List.mem_append_right _ h))))) (by decide +kernel))) (goodIn_sub (fun _ h => List.mem_cons_of_mem _ (List.mem_append_left _ (List.mem_append_left _ (List.mem_append_right _ h)))) (by decide +kernel))
set_option maxRecDepth 20000 in
theorem gL_refuses_L_passes : GoodIn wsL_refuses (va_wsS RL 82 yL_passes wsL_passes) := goodIn_app (goodIn_of _ (by decide +kernel)) ggL_refuses_L_passes
set_option maxRecDepth 20000 in
theorem ggL_refuses_L_terms : GoodIn wsL_refuses wsL_terms := goodIn_ca (goodIn_r _ [26, 8, 1, 27, 28, 29, 14, 30, 31, 32, 19, 20, 21, 22, 23, 323, 324, 325, 326, 327, 328, 329, 330, 331] (by decide +kernel) (by decide +kernel)) (goodIn_sub (fun _ h => List.mem_cons_of_mem _ (List.mem_append_left _ (List.mem_append_left _ (List.mem_append_right _ h)))) (by decide +kernel))
set_option maxRecDepth 20000 in
theorem gL_refuses_L_terms : GoodIn wsL_refuses (va_wsS RL 88 yL_terms wsL_terms) := goodIn_app (goodIn_of _ (by decide +kernel)) ggL_refuses_L_terms
set_option maxRecDepth 20000 in
theorem ggL_refuses_L_firsts : GoodIn wsL_refuses wsL_firsts := goodIn_ca (goodIn_r _ [35, 8, 1, 36, 37, 38, 14, 39, 31, 19, 20, 21, 22, 23, 40, 41, 42, 43, 44, 45, 323, 324, 325, 326, 327, 328, 329, 330, 331] (by decide +kernel) (by decide +kernel)) (goodIn_sub (fun _ h => List.mem_cons_of_mem _ (List.mem_append_left _ (List.mem_append_left _ (List.mem_append_right _ h)))) (by decide +kernel))
set_option maxRecDepth 20000 in
theorem gL_refuses_L_firsts : GoodIn wsL_refuses (va_wsS RL 92 yL_firsts wsL_firsts) := goodIn_app (goodIn_of _ (by decide +kernel)) ggL_refuses_L_firsts
set_option maxRecDepth 20000 in
theorem ggL_refuses_L_finds : GoodIn wsL_refuses wsL_finds := goodIn_ca (goodIn_ca (goodIn_r _ [48, 8, 9, 1, 10, 49, 50, 51, 14, 52, 16, 17, 53, 54, 18, 19, 20, 21, 22, 23, 55, 56, 57, 58, 59, 60, 61, 62, 63, 64, 65, 66, 67, 68, 69, 70, 71, 72, 323, 324, 325, 326, 327, 328, 329, 332, 333, 334, 335, 336, 337, 338] (by decide +kernel) (by decide +kernel)) (goodIn_sub (fun _ h => List.mem_cons_of_mem _ (List.mem_append_left _ (List.mem_append_left _ (List.mem_append_left _ (List.mem_append_right _ h))))) (by decide +kernel))) (goodIn_sub (fun _ h => List.mem_cons_of_mem _ (List.mem_append_left _ (List.mem_append_left _ (List.mem_append_right _ h)))) (by decide +kernel))
set_option maxRecDepth 20000 in
theorem gL_refuses_L_finds : GoodIn wsL_refuses (va_wsS RL 95 yL_finds wsL_finds) := goodIn_app (goodIn_of _ (by decide +kernel)) ggL_refuses_L_finds
set_option maxRecDepth 20000 in
theorem ggL_refuses_L_strikes : GoodIn wsL_refuses wsL_strikes := goodIn_ca (goodIn_r _ [75, 76, 2, 77, 78, 79, 14, 80, 53, 81, 82, 83, 84, 85, 86, 87, 54, 323, 324, 325, 326, 327, 328, 329, 332, 333, 334, 335, 336, 337, 338] (by decide +kernel) (by decide +kernel)) (goodIn_sub (fun _ h => List.mem_cons_of_mem _ (List.mem_append_left _ (List.mem_append_right _ h))) (by decide +kernel))
set_option maxRecDepth 20000 in
theorem gL_refuses_L_strikes : GoodIn wsL_refuses (va_wsS RL 99 yL_strikes wsL_strikes) := goodIn_app (goodIn_of _ (by decide +kernel)) ggL_refuses_L_strikes
set_option maxRecDepth 20000 in
theorem ggL_refuses_L_tells : GoodIn wsL_refuses wsL_tells := goodIn_ca (goodIn_ca (goodIn_r _ [90, 76, 8, 2, 1, 91, 92, 93, 14, 94, 53, 95, 82, 83, 84, 85, 86, 87, 54, 96, 97, 98, 22, 23, 19, 20, 21, 323, 324, 325, 326, 327, 328, 329, 332, 333, 334, 335, 336, 337, 338] (by decide +kernel) (by decide +kernel)) (goodIn_sub (fun _ h => List.mem_cons_of_mem _ (List.mem_append_left _ (List.mem_append_right _ h))) (by decide +kernel))) (goodIn_sub (fun _ h => List.mem_cons_of_mem _ (List.mem_append_left _ (List.mem_append_left _ (List.mem_append_right _ h)))) (by decide +kernel))
set_option maxRecDepth 20000 in
theorem gL_refuses_L_tells : GoodIn wsL_refuses (va_wsS RL 102 yL_tells wsL_tells) := goodIn_app (goodIn_of _ (by decide +kernel)) ggL_refuses_L_tells
set_option maxRecDepth 20000 in
theorem ggL_refuses_L_counts : GoodIn wsL_refuses wsL_counts := goodIn_ca (goodIn_ca (goodIn_r _ [101, 76, 8, 2, 1, 102, 103, 104, 14, 105, 53, 31, 82, 83, 84, 85, 86, 87, 54, 106, 107, 108, 19, 20, 21, 22, 23, 109, 110, 111, 58, 112, 113, 62, 114, 61, 323, 324, 325, 326, 327, 328, 329, 332, 333, 334, 335, 336, 337, 338, 330, 331] (by decide +kernel) (by decide +kernel)) (goodIn_sub (fun _ h => List.mem_cons_of_mem _ (List.mem_append_left _ (List.mem_append_right _ h))) (by decide +kernel))) (goodIn_sub (fun _ h => List.mem_cons_of_mem _ (List.mem_append_left _ (List.mem_append_left _ (List.mem_append_right _ h)))) (by decide +kernel))
set_option maxRecDepth 20000 in
theorem gL_refuses_L_counts : GoodIn wsL_refuses (va_wsS RL 106 yL_counts wsL_counts) := goodIn_app (goodIn_of _ (by decide +kernel)) ggL_refuses_L_counts
set_option maxRecDepth 20000 in
theorem ggL_refuses_L_things : GoodIn wsL_refuses wsL_things := goodIn_ca (goodIn_r _ [117, 8, 1, 118, 119, 120, 14, 121, 122, 53, 54, 106, 107, 108, 19, 20, 21, 22, 23, 123, 124, 125, 126, 127, 128, 129, 130, 131, 132, 110, 111, 58, 112, 113, 62, 114, 61, 133, 134, 135, 136, 137, 138, 139, 140, 141, 142, 143, 144, 145, 67, 146, 147, 148, 149, 150, 151, 152, 153, 154, 155, 156, 157, 158, 159, 160, 161, 162, 163, 164, 323, 324, 325, 326, 327, 328, 329, 332, 333, 334, 335, 336, 337, 338, 339, 340, 341, 330, 331] (by decide +kernel) (by decide +kernel)) (goodIn_sub (fun _ h => List.mem_cons_of_mem _ (List.mem_append_left _ (List.mem_append_left _ (List.mem_append_right _ h)))) (by decide +kernel))
set_option maxRecDepth 20000 in
theorem gL_refuses_L_things : GoodIn wsL_refuses (va_wsS RL 108 yL_things wsL_things) := goodIn_app (goodIn_of _ (by decide +kernel)) ggL_refuses_L_things
set_option maxRecDepth 20000 in
theorem ggL_refuses_L_thing : GoodIn wsL_refuses wsL_thing := goodIn_ca (goodIn_ca (goodIn_ca (goodIn_r _ [167, 76, 8, 168, 2, 1, 3, 169, 170, 171, 14, 172, 122, 173, 82, 83, 84, 85, 86, 87, 53, 54, 106, 107, 108, 19, 20, 21, 22, 23, 123, 124, 125, 126, 127, 128, 129, 130, 131, 132, 110, 111, 58, 112, 113, 62, 114, 61, 133, 134, 135, 136, 137, 138, 139, 140, 141, 142, 143, 144, 145, 67, 146, 147, 148, 149, 150, 151, 152, 153, 154, 155, 156, 157, 158, 159, 160, 174, 175, 176, 177, 178, 179, 323, 324, 325, 326, 327, 328, 329, 339, 340, 341, 332, 333, 334, 335, 336, 337, 338, 330, 331] (by decide +kernel) (by decide +kernel)) (goodIn_sub (fun _ h => List.mem_cons_of_mem _ (List.mem_append_left _ (List.mem_append_right _ h))) (by decide +kernel))) (goodIn_sub (fun _ h => List.mem_cons_of_mem _ (List.mem_append_left _ (List.mem_append_left _ (List.mem_append_right _ h)))) (by decide +kernel))) (goodIn_sub (fun _ h => List.mem_cons_of_mem _ (List.mem_append_right _ h)) (by decide +kernel))
set_option maxRecDepth 20000 in
theorem gL_refuses_L_thing : GoodIn wsL_refuses (va_wsS RL 110 yL_thing wsL_thing) := goodIn_app (goodIn_of _ (by decide +kernel)) ggL_refuses_L_thing
set_option maxRecDepth 20000 in
theorem ggL_refuses_L_value : GoodIn wsL_refuses wsL_value := goodIn_ca (goodIn_ca (goodIn_ca (goodIn_r _ [182, 76, 8, 168, 2, 1, 3, 183, 184, 185, 14, 186, 122, 173, 82, 83, 84, 85, 86, 87, 53, 54, 187, 188, 189, 19, 20, 21, 22, 23, 106, 107, 108, 123, 124, 125, 126, 127, 128, 129, 130, 131, 132, 110, 111, 58, 112, 113, 62, 114, 61, 133, 134, 135, 136, 137, 138, 139, 140, 141, 142, 143, 144, 145, 67, 146, 147, 148, 149, 150, 151, 152, 153, 154, 155, 156, 157, 158, 159, 160, 174, 175, 176, 177, 178, 179, 190, 191, 192, 193, 194, 195, 196, 197, 198, 199, 200, 201, 202, 203, 204, 323, 324, 325, 326, 327, 328, 329, 339, 340, 341, 332, 333, 334, 335, 336, 337, 338, 330, 331] (by decide +kernel) (by decide +kernel)) (goodIn_sub (fun _ h => List.mem_cons_of_mem _ (List.mem_append_left _ (List.mem_append_right _ h))) (by decide +kernel))) (goodIn_sub (fun _ h => List.mem_cons_of_mem _ (List.mem_append_left _ (List.mem_append_left _ (List.mem_append_right _ h)))) (by decide +kernel))) (goodIn_sub (fun _ h => List.mem_cons_of_mem _ (List.mem_append_right _ h)) (by decide +kernel))
set_option maxRecDepth 20000 in
theorem gL_refuses_L_value : GoodIn wsL_refuses (va_wsS RL 113 yL_value wsL_value) := goodIn_app (goodIn_of _ (by decide +kernel)) ggL_refuses_L_value
set_option maxRecDepth 20000 in
theorem ggL_refuses_L_disputed : GoodIn wsL_refuses wsL_disputed := goodIn_ca (goodIn_r _ [207, 8, 1, 208, 209, 210, 14, 211, 122, 53, 54, 187, 188, 189, 19, 20, 21, 22, 23, 106, 107, 108, 123, 124, 125, 126, 127, 128, 129, 130, 131, 132, 110, 111, 58, 112, 113, 62, 114, 61, 133, 134, 135, 136, 137, 138, 139, 140, 141, 142, 143, 144, 145, 67, 146, 147, 148, 149, 150, 151, 152, 153, 154, 155, 156, 157, 158, 159, 160, 161, 162, 163, 164, 212, 213, 214, 215, 194, 195, 196, 197, 198, 323, 324, 325, 326, 327, 328, 329, 332, 333, 334, 335, 336, 337, 338, 339, 340, 341, 330, 331] (by decide +kernel) (by decide +kernel)) (goodIn_sub (fun _ h => List.mem_cons_of_mem _ (List.mem_append_left _ (List.mem_append_left _ (List.mem_append_right _ h)))) (by decide +kernel))
set_option maxRecDepth 20000 in
theorem gL_refuses_L_disputed : GoodIn wsL_refuses (va_wsS RL 115 yL_disputed wsL_disputed) := goodIn_app (goodIn_of _ (by decide +kernel)) ggL_refuses_L_disputed
set_option maxRecDepth 20000 in
theorem ggL_refuses_L_links : GoodIn wsL_refuses wsL_links := goodIn_ca (goodIn_ca (goodIn_ca (goodIn_r _ [218, 76, 8, 9, 2, 1, 10, 219, 220, 221, 14, 222, 16, 17, 223, 224, 82, 83, 84, 85, 86, 87, 53, 54, 96, 97, 98, 22, 23, 19, 20, 21, 225, 226, 227, 228, 229, 230, 231, 232, 233, 323, 324, 325, 326, 327, 328, 329, 342, 343, 344, 345, 346, 332, 333, 334, 335, 336, 337, 338] (by decide +kernel) (by decide +kernel)) (goodIn_sub (fun _ h => List.mem_cons_of_mem _ (List.mem_append_left _ (List.mem_append_left _ (List.mem_append_left _ (List.mem_append_right _ h))))) (by decide +kernel))) (goodIn_sub (fun _ h => List.mem_cons_of_mem _ (List.mem_append_left _ (List.mem_append_right _ h))) (by decide +kernel))) (goodIn_sub (fun _ h => List.mem_cons_of_mem _ (List.mem_append_left _ (List.mem_append_left _ (List.mem_append_right _ h)))) (by decide +kernel))
set_option maxRecDepth 20000 in
theorem gL_refuses_L_links : GoodIn wsL_refuses (va_wsS RL 117 yL_links wsL_links) := goodIn_app (goodIn_of _ (by decide +kernel)) ggL_refuses_L_links
set_option maxRecDepth 20000 in
theorem ggL_refuses_L_impact : GoodIn wsL_refuses wsL_impact := goodIn_ca (goodIn_ca (goodIn_ca (goodIn_r _ [236, 76, 8, 168, 2, 1, 3, 237, 238, 239, 14, 240, 122, 223, 173, 82, 83, 84, 85, 86, 87, 53, 54, 106, 107, 108, 19, 20, 21, 22, 23, 123, 124, 125, 126, 127, 128, 129, 130, 131, 132, 110, 111, 58, 112, 113, 62, 114, 61, 133, 134, 135, 136, 137, 138, 139, 140, 141, 142, 143, 144, 145, 67, 146, 147, 148, 149, 150, 151, 152, 153, 154, 155, 156, 157, 158, 159, 160, 174, 175, 176, 177, 178, 179, 241, 242, 243, 228, 244, 245, 246, 247, 248, 249, 231, 250, 230, 233, 251, 252, 253, 254, 232, 255, 256, 257, 258, 259, 260, 261, 262, 323, 324, 325, 326, 327, 328, 329, 339, 340, 341, 332, 333, 334, 335, 336, 337, 338, 330, 331, 342, 343, 344, 345, 346] (by decide +kernel) (by decide +kernel)) (goodIn_sub (fun _ h => List.mem_cons_of_mem _ (List.mem_append_left _ (List.mem_append_right _ h))) (by decide +kernel))) (goodIn_sub (fun _ h => List.mem_cons_of_mem _ (List.mem_append_left _ (List.mem_append_left _ (List.mem_append_right _ h)))) (by decide +kernel))) (goodIn_sub (fun _ h => List.mem_cons_of_mem _ (List.mem_append_right _ h)) (by decide +kernel))
set_option maxRecDepth 20000 in
theorem gL_refuses_L_impact : GoodIn wsL_refuses (va_wsS RL 120 yL_impact wsL_impact) := goodIn_app (goodIn_of _ (by decide +kernel)) ggL_refuses_L_impact
set_option maxRecDepth 20000 in
theorem ggL_refuses_L_fails : GoodIn wsL_refuses wsL_fails := goodIn_ca (goodIn_ca (goodIn_ca (goodIn_r _ [265, 76, 8, 168, 2, 1, 3, 266, 267, 268, 14, 269, 122, 223, 173, 270, 82, 83, 84, 85, 86, 87, 53, 54, 106, 107, 108, 19, 20, 21, 22, 23, 123, 124, 125, 126, 127, 128, 129, 130, 131, 132, 110, 111, 58, 112, 113, 62, 114, 61, 133, 134, 135, 136, 137, 138, 139, 140, 141, 142, 143, 144, 145, 67, 146, 147, 148, 149, 150, 151, 152, 153, 154, 155, 156, 157, 158, 159, 160, 174, 175, 176, 177, 178, 179, 241, 242, 243, 228, 244, 245, 246, 247, 248, 249, 231, 250, 230, 233, 251, 252, 253, 254, 232, 255, 256, 257, 258, 323, 324, 325, 326, 327, 328, 329, 339, 340, 341, 342, 343, 344, 345, 346, 332, 333, 334, 335, 336, 337, 338, 330, 331] (by decide +kernel) (by decide +kernel)) (goodIn_sub (fun _ h => List.mem_cons_of_mem _ (List.mem_append_left _ (List.mem_append_right _ h))) (by decide +kernel))) (goodIn_sub (fun _ h => List.mem_cons_of_mem _ (List.mem_append_left _ (List.mem_append_left _ (List.mem_append_right _ h)))) (by decide +kernel))) (goodIn_sub (fun _ h => List.mem_cons_of_mem _ (List.mem_append_right _ h)) (by decide +kernel))
set_option maxRecDepth 20000 in
theorem gL_refuses_L_fails : GoodIn wsL_refuses (va_wsS RL 122 yL_fails wsL_fails) := goodIn_app (goodIn_of _ (by decide +kernel)) ggL_refuses_L_fails
set_option maxRecDepth 20000 in
theorem ggL_refuses_L_wishes : GoodIn wsL_refuses wsL_wishes := goodIn_ca (goodIn_ca (goodIn_r _ [273, 8, 9, 1, 10, 274, 275, 276, 14, 277, 16, 17, 278, 279, 19, 20, 21, 22, 23, 187, 188, 189, 280, 281, 282, 283, 284, 285, 286, 287, 288, 289, 323, 324, 325, 326, 327, 328, 329, 347, 348, 349, 350, 351] (by decide +kernel) (by decide +kernel)) (goodIn_sub (fun _ h => List.mem_cons_of_mem _ (List.mem_append_left _ (List.mem_append_left _ (List.mem_append_left _ (List.mem_append_right _ h))))) (by decide +kernel))) (goodIn_sub (fun _ h => List.mem_cons_of_mem _ (List.mem_append_left _ (List.mem_append_left _ (List.mem_append_right _ h)))) (by decide +kernel))
set_option maxRecDepth 20000 in
theorem gL_refuses_L_wishes : GoodIn wsL_refuses (va_wsS RL 125 yL_wishes wsL_wishes) := goodIn_app (goodIn_of _ (by decide +kernel)) ggL_refuses_L_wishes
set_option maxRecDepth 20000 in
theorem ggL_refuses_L_differing : GoodIn wsL_refuses wsL_differing := goodIn_ca (goodIn_ca (goodIn_r _ [292, 76, 8, 2, 1, 293, 294, 295, 14, 296, 86, 87, 278, 279, 122, 53, 54, 106, 107, 108, 19, 20, 21, 22, 23, 123, 124, 125, 126, 127, 128, 129, 130, 131, 132, 110, 111, 58, 112, 113, 62, 114, 61, 133, 134, 135, 136, 137, 138, 139, 140, 141, 142, 143, 144, 145, 67, 146, 147, 148, 149, 150, 151, 152, 153, 154, 155, 156, 157, 158, 159, 160, 161, 162, 163, 164, 297, 298, 299, 283, 300, 286, 287, 288, 289, 301, 302, 303, 304, 305, 306, 191, 192, 193, 194, 195, 196, 197, 198, 199, 200, 201, 202, 203, 204, 323, 324, 325, 326, 327, 328, 329, 347, 348, 349, 350, 351, 332, 333, 334, 335, 336, 337, 338, 339, 340, 341, 330, 331] (by decide +kernel) (by decide +kernel)) (goodIn_sub (fun _ h => List.mem_cons_of_mem _ (List.mem_append_left _ (List.mem_append_right _ h))) (by decide +kernel))) (goodIn_sub (fun _ h => List.mem_cons_of_mem _ (List.mem_append_left _ (List.mem_append_left _ (List.mem_append_right _ h)))) (by decide +kernel))
set_option maxRecDepth 20000 in
theorem gL_refuses_L_differing : GoodIn wsL_refuses (va_wsS RL 129 yL_differing wsL_differing) := goodIn_app (goodIn_of _ (by decide +kernel)) ggL_refuses_L_differing
set_option maxRecDepth 20000 in
theorem ggL_refuses_L_changed : GoodIn wsL_refuses wsL_changed := goodIn_ca (goodIn_r _ [309, 8, 1, 310, 311, 312, 14, 313, 122, 314, 53, 54, 187, 188, 189, 19, 20, 21, 22, 23, 106, 107, 108, 123, 124, 125, 126, 127, 128, 129, 130, 131, 132, 110, 111, 58, 112, 113, 62, 114, 61, 133, 134, 135, 136, 137, 138, 139, 140, 141, 142, 143, 144, 145, 67, 146, 147, 148, 149, 150, 151, 152, 153, 154, 155, 156, 157, 158, 159, 160, 315, 316, 317, 318, 173, 190, 191, 192, 193, 194, 195, 196, 197, 198, 199, 200, 201, 202, 203, 204, 323, 324, 325, 326, 327, 328, 329, 332, 333, 334, 335, 336, 337, 338, 339, 340, 341, 330, 331] (by decide +kernel) (by decide +kernel)) (goodIn_sub (fun _ h => List.mem_cons_of_mem _ (List.mem_append_left _ (List.mem_append_left _ (List.mem_append_right _ h)))) (by decide +kernel))
set_option maxRecDepth 20000 in
theorem gL_refuses_L_changed : GoodIn wsL_refuses (va_wsS RL 131 yL_changed wsL_changed) := goodIn_app (goodIn_of _ (by decide +kernel)) ggL_refuses_L_changed
set_option maxRecDepth 20000 in
theorem ggL_refuses_X5_today : GoodIn wsL_refuses wsX5_today := goodIn_r _ [322, 18, 323, 324, 325, 326, 327, 328, 329] (by decide +kernel) (by decide +kernel)
set_option maxRecDepth 20000 in
theorem gL_refuses_X5_today : GoodIn wsL_refuses (wsV RL 133 RX5 yX5_today wsX5_today) := goodIn_app (goodIn_of _ (by decide +kernel)) ggL_refuses_X5_today
theorem dL_refuses_0 : decode cL_refuses 0 = .ok (.iload_n 2, 1) := by decide +kernel
theorem dL_refuses_1 : decode cL_refuses 1 = .ok (.iconst 2, 1) := by decide +kernel
theorem dL_refuses_2 : decode cL_refuses 2 = .ok (.irem, 1) := by decide +kernel
theorem dL_refuses_3 : decode cL_refuses 3 = .ok (.ifCond .ne 12, 3) := by decide +kernel
theorem dL_refuses_6 : decode cL_refuses 6 = .ok (.iconst (-1), 1) := by decide +kernel
theorem dL_refuses_7 : decode cL_refuses 7 = .ok (.iload_n 2, 1) := by decide +kernel
theorem dL_refuses_8 : decode cL_refuses 8 = .ok (.bipush 50, 2) := by decide +kernel
theorem dL_refuses_10 : decode cL_refuses 10 = .ok (.irem, 1) := by decide +kernel
theorem dL_refuses_11 : decode cL_refuses 11 = .ok (.isub, 1) := by decide +kernel
theorem dL_refuses_12 : decode cL_refuses 12 = .ok (.goto 11, 3) := by decide +kernel
theorem dL_refuses_15 : decode cL_refuses 15 = .ok (.aload_n 1, 1) := by decide +kernel
theorem dL_refuses_16 : decode cL_refuses 16 = .ok (.iconst 0, 1) := by decide +kernel
theorem dL_refuses_17 : decode cL_refuses 17 = .ok (.iaload, 1) := by decide +kernel
theorem dL_refuses_18 : decode cL_refuses 18 = .ok (.iload_n 2, 1) := by decide +kernel
theorem dL_refuses_19 : decode cL_refuses 19 = .ok (.bipush 50, 2) := by decide +kernel
theorem dL_refuses_21 : decode cL_refuses 21 = .ok (.irem, 1) := by decide +kernel
theorem dL_refuses_22 : decode cL_refuses 22 = .ok (.iadd, 1) := by decide +kernel
theorem dL_refuses_23 : decode cL_refuses 23 = .ok (.istore_n 3, 1) := by decide +kernel
theorem dL_refuses_24 : decode cL_refuses 24 = .ok (.iload_n 2, 1) := by decide +kernel
theorem dL_refuses_25 : decode cL_refuses 25 = .ok (.iconst 2, 1) := by decide +kernel
theorem dL_refuses_26 : decode cL_refuses 26 = .ok (.irem, 1) := by decide +kernel
theorem dL_refuses_27 : decode cL_refuses 27 = .ok (.ifCond .ne 12, 3) := by decide +kernel
theorem dL_refuses_30 : decode cL_refuses 30 = .ok (.iconst (-1), 1) := by decide +kernel
theorem dL_refuses_31 : decode cL_refuses 31 = .ok (.iload_n 2, 1) := by decide +kernel
theorem dL_refuses_32 : decode cL_refuses 32 = .ok (.bipush 50, 2) := by decide +kernel
theorem dL_refuses_34 : decode cL_refuses 34 = .ok (.irem, 1) := by decide +kernel
theorem dL_refuses_35 : decode cL_refuses 35 = .ok (.isub, 1) := by decide +kernel
theorem dL_refuses_36 : decode cL_refuses 36 = .ok (.goto 9, 3) := by decide +kernel
theorem dL_refuses_39 : decode cL_refuses 39 = .ok (.iconst 4, 1) := by decide +kernel
theorem dL_refuses_40 : decode cL_refuses 40 = .ok (.iload_n 2, 1) := by decide +kernel
theorem dL_refuses_41 : decode cL_refuses 41 = .ok (.bipush 50, 2) := by decide +kernel
theorem dL_refuses_43 : decode cL_refuses 43 = .ok (.irem, 1) := by decide +kernel
theorem dL_refuses_44 : decode cL_refuses 44 = .ok (.iadd, 1) := by decide +kernel
theorem dL_refuses_45 : decode cL_refuses 45 = .ok (.istore 4, 2) := by decide +kernel
theorem dL_refuses_47 : decode cL_refuses 47 = .ok (.iload_n 2, 1) := by decide +kernel
theorem dL_refuses_48 : decode cL_refuses 48 = .ok (.iconst 2, 1) := by decide +kernel
theorem dL_refuses_49 : decode cL_refuses 49 = .ok (.irem, 1) := by decide +kernel
theorem dL_refuses_50 : decode cL_refuses 50 = .ok (.ifCond .ne 12, 3) := by decide +kernel
theorem dL_refuses_53 : decode cL_refuses 53 = .ok (.iconst (-1), 1) := by decide +kernel
theorem dL_refuses_54 : decode cL_refuses 54 = .ok (.iload_n 2, 1) := by decide +kernel
theorem dL_refuses_55 : decode cL_refuses 55 = .ok (.bipush 50, 2) := by decide +kernel
theorem dL_refuses_57 : decode cL_refuses 57 = .ok (.irem, 1) := by decide +kernel
theorem dL_refuses_58 : decode cL_refuses 58 = .ok (.isub, 1) := by decide +kernel
theorem dL_refuses_59 : decode cL_refuses 59 = .ok (.goto 8, 3) := by decide +kernel
theorem dL_refuses_62 : decode cL_refuses 62 = .ok (.sipush 10000, 3) := by decide +kernel
theorem dL_refuses_65 : decode cL_refuses 65 = .ok (.iload_n 2, 1) := by decide +kernel
theorem dL_refuses_66 : decode cL_refuses 66 = .ok (.iadd, 1) := by decide +kernel
theorem dL_refuses_67 : decode cL_refuses 67 = .ok (.istore 5, 2) := by decide +kernel
theorem dL_refuses_69 : decode cL_refuses 69 = .ok (.aload_n 0, 1) := by decide +kernel
theorem dL_refuses_70 : decode cL_refuses 70 = .ok (.iconst 0, 1) := by decide +kernel
theorem dL_refuses_71 : decode cL_refuses 71 = .ok (.invokestatic 82, 3) := by decide +kernel
theorem dL_refuses_74 : decode cL_refuses 74 = .ok (.ldc 15, 2) := by decide +kernel
theorem dL_refuses_76 : decode cL_refuses 76 = .ok (.if_icmp .ne 441, 3) := by decide +kernel
theorem dL_refuses_79 : decode cL_refuses 79 = .ok (.aload_n 0, 1) := by decide +kernel
theorem dL_refuses_80 : decode cL_refuses 80 = .ok (.sipush 1001, 3) := by decide +kernel
theorem dL_refuses_83 : decode cL_refuses 83 = .ok (.iload_n 2, 1) := by decide +kernel
theorem dL_refuses_84 : decode cL_refuses 84 = .ok (.iadd, 1) := by decide +kernel
theorem dL_refuses_85 : decode cL_refuses 85 = .ok (.invokestatic 82, 3) := by decide +kernel
theorem dL_refuses_88 : decode cL_refuses 88 = .ok (.ldc 15, 2) := by decide +kernel
theorem dL_refuses_90 : decode cL_refuses 90 = .ok (.if_icmp .ne 427, 3) := by decide +kernel
theorem dL_refuses_93 : decode cL_refuses 93 = .ok (.aload_n 0, 1) := by decide +kernel
theorem dL_refuses_94 : decode cL_refuses 94 = .ok (.iload 4, 2) := by decide +kernel
theorem dL_refuses_96 : decode cL_refuses 96 = .ok (.iconst 5, 1) := by decide +kernel
theorem dL_refuses_97 : decode cL_refuses 97 = .ok (.invokestatic 88, 3) := by decide +kernel
theorem dL_refuses_100 : decode cL_refuses 100 = .ok (.ldc 15, 2) := by decide +kernel
theorem dL_refuses_102 : decode cL_refuses 102 = .ok (.if_icmp .ne 415, 3) := by decide +kernel
theorem dL_refuses_105 : decode cL_refuses 105 = .ok (.aload_n 0, 1) := by decide +kernel
theorem dL_refuses_106 : decode cL_refuses 106 = .ok (.iload_n 2, 1) := by decide +kernel
theorem dL_refuses_107 : decode cL_refuses 107 = .ok (.iconst 4, 1) := by decide +kernel
theorem dL_refuses_108 : decode cL_refuses 108 = .ok (.irem, 1) := by decide +kernel
theorem dL_refuses_109 : decode cL_refuses 109 = .ok (.sipush 1000, 3) := by decide +kernel
theorem dL_refuses_112 : decode cL_refuses 112 = .ok (.iload_n 2, 1) := by decide +kernel
theorem dL_refuses_113 : decode cL_refuses 113 = .ok (.iadd, 1) := by decide +kernel
theorem dL_refuses_114 : decode cL_refuses 114 = .ok (.invokestatic 88, 3) := by decide +kernel
theorem dL_refuses_117 : decode cL_refuses 117 = .ok (.ldc 15, 2) := by decide +kernel
theorem dL_refuses_119 : decode cL_refuses 119 = .ok (.if_icmp .ne 398, 3) := by decide +kernel
theorem dL_refuses_122 : decode cL_refuses 122 = .ok (.aload_n 0, 1) := by decide +kernel
theorem dL_refuses_123 : decode cL_refuses 123 = .ok (.iload_n 2, 1) := by decide +kernel
theorem dL_refuses_124 : decode cL_refuses 124 = .ok (.iconst 4, 1) := by decide +kernel
theorem dL_refuses_125 : decode cL_refuses 125 = .ok (.irem, 1) := by decide +kernel
theorem dL_refuses_126 : decode cL_refuses 126 = .ok (.iload_n 2, 1) := by decide +kernel
theorem dL_refuses_127 : decode cL_refuses 127 = .ok (.ineg, 1) := by decide +kernel
theorem dL_refuses_128 : decode cL_refuses 128 = .ok (.invokestatic 88, 3) := by decide +kernel
theorem dL_refuses_131 : decode cL_refuses 131 = .ok (.ldc 15, 2) := by decide +kernel
theorem dL_refuses_133 : decode cL_refuses 133 = .ok (.if_icmp .ne 384, 3) := by decide +kernel
theorem dL_refuses_136 : decode cL_refuses 136 = .ok (.aload_n 0, 1) := by decide +kernel
theorem dL_refuses_137 : decode cL_refuses 137 = .ok (.iload 4, 2) := by decide +kernel
theorem dL_refuses_139 : decode cL_refuses 139 = .ok (.invokestatic 92, 3) := by decide +kernel
theorem dL_refuses_142 : decode cL_refuses 142 = .ok (.ldc 15, 2) := by decide +kernel
theorem dL_refuses_144 : decode cL_refuses 144 = .ok (.if_icmp .ne 373, 3) := by decide +kernel
theorem dL_refuses_147 : decode cL_refuses 147 = .ok (.aload_n 0, 1) := by decide +kernel
theorem dL_refuses_148 : decode cL_refuses 148 = .ok (.iload 4, 2) := by decide +kernel
theorem dL_refuses_150 : decode cL_refuses 150 = .ok (.iconst 0, 1) := by decide +kernel
theorem dL_refuses_151 : decode cL_refuses 151 = .ok (.iconst 0, 1) := by decide +kernel
theorem dL_refuses_152 : decode cL_refuses 152 = .ok (.iconst 0, 1) := by decide +kernel
theorem dL_refuses_153 : decode cL_refuses 153 = .ok (.iconst 0, 1) := by decide +kernel
theorem dL_refuses_154 : decode cL_refuses 154 = .ok (.iconst 0, 1) := by decide +kernel
theorem dL_refuses_155 : decode cL_refuses 155 = .ok (.invokestatic 95, 3) := by decide +kernel
theorem dL_refuses_158 : decode cL_refuses 158 = .ok (.ldc 15, 2) := by decide +kernel
theorem dL_refuses_160 : decode cL_refuses 160 = .ok (.if_icmp .ne 357, 3) := by decide +kernel
theorem dL_refuses_163 : decode cL_refuses 163 = .ok (.aload_n 0, 1) := by decide +kernel
theorem dL_refuses_164 : decode cL_refuses 164 = .ok (.iconst 0, 1) := by decide +kernel
theorem dL_refuses_165 : decode cL_refuses 165 = .ok (.bipush 100, 2) := by decide +kernel
theorem dL_refuses_167 : decode cL_refuses 167 = .ok (.iload_n 2, 1) := by decide +kernel
theorem dL_refuses_168 : decode cL_refuses 168 = .ok (.iadd, 1) := by decide +kernel
theorem dL_refuses_169 : decode cL_refuses 169 = .ok (.iconst 0, 1) := by decide +kernel
theorem dL_refuses_170 : decode cL_refuses 170 = .ok (.iconst 0, 1) := by decide +kernel
theorem dL_refuses_171 : decode cL_refuses 171 = .ok (.iconst 0, 1) := by decide +kernel
theorem dL_refuses_172 : decode cL_refuses 172 = .ok (.iconst 0, 1) := by decide +kernel
theorem dL_refuses_173 : decode cL_refuses 173 = .ok (.invokestatic 95, 3) := by decide +kernel
theorem dL_refuses_176 : decode cL_refuses 176 = .ok (.ldc 15, 2) := by decide +kernel
theorem dL_refuses_178 : decode cL_refuses 178 = .ok (.if_icmp .ne 339, 3) := by decide +kernel
theorem dL_refuses_181 : decode cL_refuses 181 = .ok (.aload_n 0, 1) := by decide +kernel
theorem dL_refuses_182 : decode cL_refuses 182 = .ok (.iconst 0, 1) := by decide +kernel
theorem dL_refuses_183 : decode cL_refuses 183 = .ok (.iconst 0, 1) := by decide +kernel
theorem dL_refuses_184 : decode cL_refuses 184 = .ok (.iconst (-1), 1) := by decide +kernel
theorem dL_refuses_185 : decode cL_refuses 185 = .ok (.iload_n 2, 1) := by decide +kernel
theorem dL_refuses_186 : decode cL_refuses 186 = .ok (.isub, 1) := by decide +kernel
theorem dL_refuses_187 : decode cL_refuses 187 = .ok (.iconst 0, 1) := by decide +kernel
theorem dL_refuses_188 : decode cL_refuses 188 = .ok (.iconst 0, 1) := by decide +kernel
theorem dL_refuses_189 : decode cL_refuses 189 = .ok (.iconst 0, 1) := by decide +kernel
theorem dL_refuses_190 : decode cL_refuses 190 = .ok (.invokestatic 95, 3) := by decide +kernel
theorem dL_refuses_193 : decode cL_refuses 193 = .ok (.ldc 15, 2) := by decide +kernel
theorem dL_refuses_195 : decode cL_refuses 195 = .ok (.if_icmp .ne 322, 3) := by decide +kernel
theorem dL_refuses_198 : decode cL_refuses 198 = .ok (.aload_n 0, 1) := by decide +kernel
theorem dL_refuses_199 : decode cL_refuses 199 = .ok (.iconst 0, 1) := by decide +kernel
theorem dL_refuses_200 : decode cL_refuses 200 = .ok (.iconst 0, 1) := by decide +kernel
theorem dL_refuses_201 : decode cL_refuses 201 = .ok (.iconst 0, 1) := by decide +kernel
theorem dL_refuses_202 : decode cL_refuses 202 = .ok (.bipush 100, 2) := by decide +kernel
theorem dL_refuses_204 : decode cL_refuses 204 = .ok (.iconst 0, 1) := by decide +kernel
theorem dL_refuses_205 : decode cL_refuses 205 = .ok (.iconst 0, 1) := by decide +kernel
theorem dL_refuses_206 : decode cL_refuses 206 = .ok (.invokestatic 95, 3) := by decide +kernel
theorem dL_refuses_209 : decode cL_refuses 209 = .ok (.ldc 15, 2) := by decide +kernel
theorem dL_refuses_211 : decode cL_refuses 211 = .ok (.if_icmp .ne 306, 3) := by decide +kernel
theorem dL_refuses_214 : decode cL_refuses 214 = .ok (.aload_n 0, 1) := by decide +kernel
theorem dL_refuses_215 : decode cL_refuses 215 = .ok (.iconst 0, 1) := by decide +kernel
theorem dL_refuses_216 : decode cL_refuses 216 = .ok (.iconst 0, 1) := by decide +kernel
theorem dL_refuses_217 : decode cL_refuses 217 = .ok (.iconst 0, 1) := by decide +kernel
theorem dL_refuses_218 : decode cL_refuses 218 = .ok (.iconst 0, 1) := by decide +kernel
theorem dL_refuses_219 : decode cL_refuses 219 = .ok (.bipush (-2), 2) := by decide +kernel
theorem dL_refuses_221 : decode cL_refuses 221 = .ok (.iload_n 2, 1) := by decide +kernel
theorem dL_refuses_222 : decode cL_refuses 222 = .ok (.isub, 1) := by decide +kernel
theorem dL_refuses_223 : decode cL_refuses 223 = .ok (.iconst 0, 1) := by decide +kernel
theorem dL_refuses_224 : decode cL_refuses 224 = .ok (.invokestatic 95, 3) := by decide +kernel
theorem dL_refuses_227 : decode cL_refuses 227 = .ok (.ldc 15, 2) := by decide +kernel
theorem dL_refuses_229 : decode cL_refuses 229 = .ok (.if_icmp .ne 288, 3) := by decide +kernel
theorem dL_refuses_232 : decode cL_refuses 232 = .ok (.aload_n 0, 1) := by decide +kernel
theorem dL_refuses_233 : decode cL_refuses 233 = .ok (.iconst 0, 1) := by decide +kernel
theorem dL_refuses_234 : decode cL_refuses 234 = .ok (.iconst 0, 1) := by decide +kernel
theorem dL_refuses_235 : decode cL_refuses 235 = .ok (.iconst 0, 1) := by decide +kernel
theorem dL_refuses_236 : decode cL_refuses 236 = .ok (.iconst 0, 1) := by decide +kernel
theorem dL_refuses_237 : decode cL_refuses 237 = .ok (.iconst 0, 1) := by decide +kernel
theorem dL_refuses_238 : decode cL_refuses 238 = .ok (.bipush 100, 2) := by decide +kernel
theorem dL_refuses_240 : decode cL_refuses 240 = .ok (.iload_n 2, 1) := by decide +kernel
theorem dL_refuses_241 : decode cL_refuses 241 = .ok (.iadd, 1) := by decide +kernel
theorem dL_refuses_242 : decode cL_refuses 242 = .ok (.invokestatic 95, 3) := by decide +kernel
theorem dL_refuses_245 : decode cL_refuses 245 = .ok (.ldc 15, 2) := by decide +kernel
theorem dL_refuses_247 : decode cL_refuses 247 = .ok (.if_icmp .ne 270, 3) := by decide +kernel
theorem dL_refuses_250 : decode cL_refuses 250 = .ok (.aload_n 0, 1) := by decide +kernel
theorem dL_refuses_251 : decode cL_refuses 251 = .ok (.iload_n 3, 1) := by decide +kernel
theorem dL_refuses_252 : decode cL_refuses 252 = .ok (.invokestatic 99, 3) := by decide +kernel
theorem dL_refuses_255 : decode cL_refuses 255 = .ok (.ldc 36, 2) := by decide +kernel
theorem dL_refuses_257 : decode cL_refuses 257 = .ok (.if_icmp .ne 260, 3) := by decide +kernel
theorem dL_refuses_260 : decode cL_refuses 260 = .ok (.aload_n 0, 1) := by decide +kernel
theorem dL_refuses_261 : decode cL_refuses 261 = .ok (.iload_n 3, 1) := by decide +kernel
theorem dL_refuses_262 : decode cL_refuses 262 = .ok (.iload_n 3, 1) := by decide +kernel
theorem dL_refuses_263 : decode cL_refuses 263 = .ok (.bipush 9, 2) := by decide +kernel
theorem dL_refuses_265 : decode cL_refuses 265 = .ok (.invokestatic 102, 3) := by decide +kernel
theorem dL_refuses_268 : decode cL_refuses 268 = .ok (.ldc 36, 2) := by decide +kernel
theorem dL_refuses_270 : decode cL_refuses 270 = .ok (.if_icmp .ne 247, 3) := by decide +kernel
theorem dL_refuses_273 : decode cL_refuses 273 = .ok (.aload_n 0, 1) := by decide +kernel
theorem dL_refuses_274 : decode cL_refuses 274 = .ok (.iload_n 3, 1) := by decide +kernel
theorem dL_refuses_275 : decode cL_refuses 275 = .ok (.iload 5, 2) := by decide +kernel
theorem dL_refuses_277 : decode cL_refuses 277 = .ok (.invokestatic 106, 3) := by decide +kernel
theorem dL_refuses_280 : decode cL_refuses 280 = .ok (.ldc 36, 2) := by decide +kernel
theorem dL_refuses_282 : decode cL_refuses 282 = .ok (.if_icmp .ne 235, 3) := by decide +kernel
theorem dL_refuses_285 : decode cL_refuses 285 = .ok (.aload_n 0, 1) := by decide +kernel
theorem dL_refuses_286 : decode cL_refuses 286 = .ok (.iload 5, 2) := by decide +kernel
theorem dL_refuses_288 : decode cL_refuses 288 = .ok (.invokestatic 108, 3) := by decide +kernel
theorem dL_refuses_291 : decode cL_refuses 291 = .ok (.ldc 15, 2) := by decide +kernel
theorem dL_refuses_293 : decode cL_refuses 293 = .ok (.if_icmp .ne 224, 3) := by decide +kernel
theorem dL_refuses_296 : decode cL_refuses 296 = .ok (.aload_n 0, 1) := by decide +kernel
theorem dL_refuses_297 : decode cL_refuses 297 = .ok (.iload_n 3, 1) := by decide +kernel
theorem dL_refuses_298 : decode cL_refuses 298 = .ok (.iload 5, 2) := by decide +kernel
theorem dL_refuses_300 : decode cL_refuses 300 = .ok (.invokestatic 110, 3) := by decide +kernel
theorem dL_refuses_303 : decode cL_refuses 303 = .ok (.ldc 36, 2) := by decide +kernel
theorem dL_refuses_305 : decode cL_refuses 305 = .ok (.if_icmp .ne 212, 3) := by decide +kernel
theorem dL_refuses_308 : decode cL_refuses 308 = .ok (.aload_n 0, 1) := by decide +kernel
theorem dL_refuses_309 : decode cL_refuses 309 = .ok (.iload_n 3, 1) := by decide +kernel
theorem dL_refuses_310 : decode cL_refuses 310 = .ok (.bipush 9, 2) := by decide +kernel
theorem dL_refuses_312 : decode cL_refuses 312 = .ok (.iload 5, 2) := by decide +kernel
theorem dL_refuses_314 : decode cL_refuses 314 = .ok (.invokestatic 113, 3) := by decide +kernel
theorem dL_refuses_317 : decode cL_refuses 317 = .ok (.ldc 36, 2) := by decide +kernel
theorem dL_refuses_319 : decode cL_refuses 319 = .ok (.if_icmp .ne 198, 3) := by decide +kernel
theorem dL_refuses_322 : decode cL_refuses 322 = .ok (.aload_n 0, 1) := by decide +kernel
theorem dL_refuses_323 : decode cL_refuses 323 = .ok (.iconst 2, 1) := by decide +kernel
theorem dL_refuses_324 : decode cL_refuses 324 = .ok (.iload_n 2, 1) := by decide +kernel
theorem dL_refuses_325 : decode cL_refuses 325 = .ok (.iadd, 1) := by decide +kernel
theorem dL_refuses_326 : decode cL_refuses 326 = .ok (.iconst 0, 1) := by decide +kernel
theorem dL_refuses_327 : decode cL_refuses 327 = .ok (.invokestatic 115, 3) := by decide +kernel
theorem dL_refuses_330 : decode cL_refuses 330 = .ok (.ldc 15, 2) := by decide +kernel
theorem dL_refuses_332 : decode cL_refuses 332 = .ok (.if_icmp .ne 185, 3) := by decide +kernel
theorem dL_refuses_335 : decode cL_refuses 335 = .ok (.aload_n 0, 1) := by decide +kernel
theorem dL_refuses_336 : decode cL_refuses 336 = .ok (.iconst 0, 1) := by decide +kernel
theorem dL_refuses_337 : decode cL_refuses 337 = .ok (.iload 5, 2) := by decide +kernel
theorem dL_refuses_339 : decode cL_refuses 339 = .ok (.invokestatic 115, 3) := by decide +kernel
theorem dL_refuses_342 : decode cL_refuses 342 = .ok (.ldc 15, 2) := by decide +kernel
theorem dL_refuses_344 : decode cL_refuses 344 = .ok (.if_icmp .ne 173, 3) := by decide +kernel
theorem dL_refuses_347 : decode cL_refuses 347 = .ok (.aload_n 0, 1) := by decide +kernel
theorem dL_refuses_348 : decode cL_refuses 348 = .ok (.iload_n 3, 1) := by decide +kernel
theorem dL_refuses_349 : decode cL_refuses 349 = .ok (.iload_n 3, 1) := by decide +kernel
theorem dL_refuses_350 : decode cL_refuses 350 = .ok (.bipush 9, 2) := by decide +kernel
theorem dL_refuses_352 : decode cL_refuses 352 = .ok (.invokestatic 117, 3) := by decide +kernel
theorem dL_refuses_355 : decode cL_refuses 355 = .ok (.ldc 36, 2) := by decide +kernel
theorem dL_refuses_357 : decode cL_refuses 357 = .ok (.if_icmp .ne 160, 3) := by decide +kernel
theorem dL_refuses_360 : decode cL_refuses 360 = .ok (.aload_n 0, 1) := by decide +kernel
theorem dL_refuses_361 : decode cL_refuses 361 = .ok (.iload_n 3, 1) := by decide +kernel
theorem dL_refuses_362 : decode cL_refuses 362 = .ok (.iload 5, 2) := by decide +kernel
theorem dL_refuses_364 : decode cL_refuses 364 = .ok (.invokestatic 120, 3) := by decide +kernel
theorem dL_refuses_367 : decode cL_refuses 367 = .ok (.ldc 36, 2) := by decide +kernel
theorem dL_refuses_369 : decode cL_refuses 369 = .ok (.if_icmp .ne 148, 3) := by decide +kernel
theorem dL_refuses_372 : decode cL_refuses 372 = .ok (.aload_n 0, 1) := by decide +kernel
theorem dL_refuses_373 : decode cL_refuses 373 = .ok (.iload_n 3, 1) := by decide +kernel
theorem dL_refuses_374 : decode cL_refuses 374 = .ok (.iconst 0, 1) := by decide +kernel
theorem dL_refuses_375 : decode cL_refuses 375 = .ok (.iload 5, 2) := by decide +kernel
theorem dL_refuses_377 : decode cL_refuses 377 = .ok (.invokestatic 122, 3) := by decide +kernel
theorem dL_refuses_380 : decode cL_refuses 380 = .ok (.ldc 36, 2) := by decide +kernel
theorem dL_refuses_382 : decode cL_refuses 382 = .ok (.if_icmp .ne 135, 3) := by decide +kernel
theorem dL_refuses_385 : decode cL_refuses 385 = .ok (.aload_n 0, 1) := by decide +kernel
theorem dL_refuses_386 : decode cL_refuses 386 = .ok (.iconst 3, 1) := by decide +kernel
theorem dL_refuses_387 : decode cL_refuses 387 = .ok (.iload_n 2, 1) := by decide +kernel
theorem dL_refuses_388 : decode cL_refuses 388 = .ok (.iadd, 1) := by decide +kernel
theorem dL_refuses_389 : decode cL_refuses 389 = .ok (.iconst 1, 1) := by decide +kernel
theorem dL_refuses_390 : decode cL_refuses 390 = .ok (.iconst 0, 1) := by decide +kernel
theorem dL_refuses_391 : decode cL_refuses 391 = .ok (.iconst 0, 1) := by decide +kernel
theorem dL_refuses_392 : decode cL_refuses 392 = .ok (.invokestatic 125, 3) := by decide +kernel
theorem dL_refuses_395 : decode cL_refuses 395 = .ok (.ldc 15, 2) := by decide +kernel
theorem dL_refuses_397 : decode cL_refuses 397 = .ok (.if_icmp .ne 120, 3) := by decide +kernel
theorem dL_refuses_400 : decode cL_refuses 400 = .ok (.aload_n 0, 1) := by decide +kernel
theorem dL_refuses_401 : decode cL_refuses 401 = .ok (.iconst 0, 1) := by decide +kernel
theorem dL_refuses_402 : decode cL_refuses 402 = .ok (.iconst 0, 1) := by decide +kernel
theorem dL_refuses_403 : decode cL_refuses 403 = .ok (.iconst 0, 1) := by decide +kernel
theorem dL_refuses_404 : decode cL_refuses 404 = .ok (.iconst 0, 1) := by decide +kernel
theorem dL_refuses_405 : decode cL_refuses 405 = .ok (.invokestatic 125, 3) := by decide +kernel
theorem dL_refuses_408 : decode cL_refuses 408 = .ok (.ldc 15, 2) := by decide +kernel
theorem dL_refuses_410 : decode cL_refuses 410 = .ok (.if_icmp .ne 107, 3) := by decide +kernel
theorem dL_refuses_413 : decode cL_refuses 413 = .ok (.aload_n 0, 1) := by decide +kernel
theorem dL_refuses_414 : decode cL_refuses 414 = .ok (.iconst 0, 1) := by decide +kernel
theorem dL_refuses_415 : decode cL_refuses 415 = .ok (.iconst 1, 1) := by decide +kernel
theorem dL_refuses_416 : decode cL_refuses 416 = .ok (.iconst 2, 1) := by decide +kernel
theorem dL_refuses_417 : decode cL_refuses 417 = .ok (.iload_n 2, 1) := by decide +kernel
theorem dL_refuses_418 : decode cL_refuses 418 = .ok (.iadd, 1) := by decide +kernel
theorem dL_refuses_419 : decode cL_refuses 419 = .ok (.iconst 0, 1) := by decide +kernel
theorem dL_refuses_420 : decode cL_refuses 420 = .ok (.invokestatic 125, 3) := by decide +kernel
theorem dL_refuses_423 : decode cL_refuses 423 = .ok (.ldc 15, 2) := by decide +kernel
theorem dL_refuses_425 : decode cL_refuses 425 = .ok (.if_icmp .ne 92, 3) := by decide +kernel
theorem dL_refuses_428 : decode cL_refuses 428 = .ok (.aload_n 0, 1) := by decide +kernel
theorem dL_refuses_429 : decode cL_refuses 429 = .ok (.iconst 0, 1) := by decide +kernel
theorem dL_refuses_430 : decode cL_refuses 430 = .ok (.iconst 1, 1) := by decide +kernel
theorem dL_refuses_431 : decode cL_refuses 431 = .ok (.iconst 0, 1) := by decide +kernel
theorem dL_refuses_432 : decode cL_refuses 432 = .ok (.bipush 100, 2) := by decide +kernel
theorem dL_refuses_434 : decode cL_refuses 434 = .ok (.iload_n 2, 1) := by decide +kernel
theorem dL_refuses_435 : decode cL_refuses 435 = .ok (.iadd, 1) := by decide +kernel
theorem dL_refuses_436 : decode cL_refuses 436 = .ok (.invokestatic 125, 3) := by decide +kernel
theorem dL_refuses_439 : decode cL_refuses 439 = .ok (.ldc 15, 2) := by decide +kernel
theorem dL_refuses_441 : decode cL_refuses 441 = .ok (.if_icmp .ne 76, 3) := by decide +kernel
theorem dL_refuses_444 : decode cL_refuses 444 = .ok (.aload_n 0, 1) := by decide +kernel
theorem dL_refuses_445 : decode cL_refuses 445 = .ok (.aload_n 1, 1) := by decide +kernel
theorem dL_refuses_446 : decode cL_refuses 446 = .ok (.iconst 2, 1) := by decide +kernel
theorem dL_refuses_447 : decode cL_refuses 447 = .ok (.iaload, 1) := by decide +kernel
theorem dL_refuses_448 : decode cL_refuses 448 = .ok (.iload_n 2, 1) := by decide +kernel
theorem dL_refuses_449 : decode cL_refuses 449 = .ok (.iadd, 1) := by decide +kernel
theorem dL_refuses_450 : decode cL_refuses 450 = .ok (.iconst 0, 1) := by decide +kernel
theorem dL_refuses_451 : decode cL_refuses 451 = .ok (.invokestatic 129, 3) := by decide +kernel
theorem dL_refuses_454 : decode cL_refuses 454 = .ok (.ldc 36, 2) := by decide +kernel
theorem dL_refuses_456 : decode cL_refuses 456 = .ok (.if_icmp .ne 61, 3) := by decide +kernel
theorem dL_refuses_459 : decode cL_refuses 459 = .ok (.aload_n 0, 1) := by decide +kernel
theorem dL_refuses_460 : decode cL_refuses 460 = .ok (.iconst (-1), 1) := by decide +kernel
theorem dL_refuses_461 : decode cL_refuses 461 = .ok (.iload_n 2, 1) := by decide +kernel
theorem dL_refuses_462 : decode cL_refuses 462 = .ok (.isub, 1) := by decide +kernel
theorem dL_refuses_463 : decode cL_refuses 463 = .ok (.iload 5, 2) := by decide +kernel
theorem dL_refuses_465 : decode cL_refuses 465 = .ok (.invokestatic 129, 3) := by decide +kernel
theorem dL_refuses_468 : decode cL_refuses 468 = .ok (.ldc 36, 2) := by decide +kernel
theorem dL_refuses_470 : decode cL_refuses 470 = .ok (.if_icmp .ne 47, 3) := by decide +kernel
theorem dL_refuses_473 : decode cL_refuses 473 = .ok (.aload_n 0, 1) := by decide +kernel
theorem dL_refuses_474 : decode cL_refuses 474 = .ok (.iconst 0, 1) := by decide +kernel
theorem dL_refuses_475 : decode cL_refuses 475 = .ok (.iload 5, 2) := by decide +kernel
theorem dL_refuses_477 : decode cL_refuses 477 = .ok (.iconst 0, 1) := by decide +kernel
theorem dL_refuses_478 : decode cL_refuses 478 = .ok (.invokestatic 131, 3) := by decide +kernel
theorem dL_refuses_481 : decode cL_refuses 481 = .ok (.ldc 15, 2) := by decide +kernel
theorem dL_refuses_483 : decode cL_refuses 483 = .ok (.if_icmp .ne 34, 3) := by decide +kernel
theorem dL_refuses_486 : decode cL_refuses 486 = .ok (.aload_n 0, 1) := by decide +kernel
theorem dL_refuses_487 : decode cL_refuses 487 = .ok (.iconst 0, 1) := by decide +kernel
theorem dL_refuses_488 : decode cL_refuses 488 = .ok (.iconst 0, 1) := by decide +kernel
theorem dL_refuses_489 : decode cL_refuses 489 = .ok (.iload 5, 2) := by decide +kernel
theorem dL_refuses_491 : decode cL_refuses 491 = .ok (.invokestatic 131, 3) := by decide +kernel
theorem dL_refuses_494 : decode cL_refuses 494 = .ok (.ldc 15, 2) := by decide +kernel
theorem dL_refuses_496 : decode cL_refuses 496 = .ok (.if_icmp .ne 21, 3) := by decide +kernel
theorem dL_refuses_499 : decode cL_refuses 499 = .ok (.aload_n 0, 1) := by decide +kernel
theorem dL_refuses_500 : decode cL_refuses 500 = .ok (.iconst (-1), 1) := by decide +kernel
theorem dL_refuses_501 : decode cL_refuses 501 = .ok (.iload_n 2, 1) := by decide +kernel
theorem dL_refuses_502 : decode cL_refuses 502 = .ok (.isub, 1) := by decide +kernel
theorem dL_refuses_503 : decode cL_refuses 503 = .ok (.iconst 0, 1) := by decide +kernel
theorem dL_refuses_504 : decode cL_refuses 504 = .ok (.iconst 0, 1) := by decide +kernel
theorem dL_refuses_505 : decode cL_refuses 505 = .ok (.invokestatic 131, 3) := by decide +kernel
theorem dL_refuses_508 : decode cL_refuses 508 = .ok (.ldc 15, 2) := by decide +kernel
theorem dL_refuses_510 : decode cL_refuses 510 = .ok (.if_icmp .ne 7, 3) := by decide +kernel
theorem dL_refuses_513 : decode cL_refuses 513 = .ok (.iconst 1, 1) := by decide +kernel
theorem dL_refuses_514 : decode cL_refuses 514 = .ok (.goto 4, 3) := by decide +kernel
theorem dL_refuses_517 : decode cL_refuses 517 = .ok (.iconst 0, 1) := by decide +kernel
theorem dL_refuses_518 : decode cL_refuses 518 = .ok (.istore 6, 2) := by decide +kernel
theorem dL_refuses_520 : decode cL_refuses 520 = .ok (.iload 6, 2) := by decide +kernel
theorem dL_refuses_522 : decode cL_refuses 522 = .ok (.ifCond .eq 334, 3) := by decide +kernel
theorem dL_refuses_525 : decode cL_refuses 525 = .ok (.aload_n 1, 1) := by decide +kernel
theorem dL_refuses_526 : decode cL_refuses 526 = .ok (.iconst 0, 1) := by decide +kernel
theorem dL_refuses_527 : decode cL_refuses 527 = .ok (.iaload, 1) := by decide +kernel
theorem dL_refuses_528 : decode cL_refuses 528 = .ok (.ifCond .le 328, 3) := by decide +kernel
theorem dL_refuses_531 : decode cL_refuses 531 = .ok (.iload_n 2, 1) := by decide +kernel
theorem dL_refuses_532 : decode cL_refuses 532 = .ok (.aload_n 1, 1) := by decide +kernel
theorem dL_refuses_533 : decode cL_refuses 533 = .ok (.iconst 0, 1) := by decide +kernel
theorem dL_refuses_534 : decode cL_refuses 534 = .ok (.iaload, 1) := by decide +kernel
theorem dL_refuses_535 : decode cL_refuses 535 = .ok (.irem, 1) := by decide +kernel
theorem dL_refuses_536 : decode cL_refuses 536 = .ok (.istore 7, 2) := by decide +kernel
theorem dL_refuses_538 : decode cL_refuses 538 = .ok (.aload_n 0, 1) := by decide +kernel
theorem dL_refuses_539 : decode cL_refuses 539 = .ok (.iload 7, 2) := by decide +kernel
theorem dL_refuses_541 : decode cL_refuses 541 = .ok (.iload 7, 2) := by decide +kernel
theorem dL_refuses_543 : decode cL_refuses 543 = .ok (.iconst 1, 1) := by decide +kernel
theorem dL_refuses_544 : decode cL_refuses 544 = .ok (.invokestatic 102, 3) := by decide +kernel
theorem dL_refuses_547 : decode cL_refuses 547 = .ok (.ldc 15, 2) := by decide +kernel
theorem dL_refuses_549 : decode cL_refuses 549 = .ok (.if_icmp .ne 143, 3) := by decide +kernel
theorem dL_refuses_552 : decode cL_refuses 552 = .ok (.aload_n 0, 1) := by decide +kernel
theorem dL_refuses_553 : decode cL_refuses 553 = .ok (.iload 7, 2) := by decide +kernel
theorem dL_refuses_555 : decode cL_refuses 555 = .ok (.iload_n 3, 1) := by decide +kernel
theorem dL_refuses_556 : decode cL_refuses 556 = .ok (.iconst 1, 1) := by decide +kernel
theorem dL_refuses_557 : decode cL_refuses 557 = .ok (.invokestatic 102, 3) := by decide +kernel
theorem dL_refuses_560 : decode cL_refuses 560 = .ok (.ldc 36, 2) := by decide +kernel
theorem dL_refuses_562 : decode cL_refuses 562 = .ok (.if_icmp .ne 130, 3) := by decide +kernel
theorem dL_refuses_565 : decode cL_refuses 565 = .ok (.aload_n 0, 1) := by decide +kernel
theorem dL_refuses_566 : decode cL_refuses 566 = .ok (.iload 7, 2) := by decide +kernel
theorem dL_refuses_568 : decode cL_refuses 568 = .ok (.iload 5, 2) := by decide +kernel
theorem dL_refuses_570 : decode cL_refuses 570 = .ok (.invokestatic 106, 3) := by decide +kernel
theorem dL_refuses_573 : decode cL_refuses 573 = .ok (.ldc 15, 2) := by decide +kernel
theorem dL_refuses_575 : decode cL_refuses 575 = .ok (.if_icmp .ne 117, 3) := by decide +kernel
theorem dL_refuses_578 : decode cL_refuses 578 = .ok (.aload_n 0, 1) := by decide +kernel
theorem dL_refuses_579 : decode cL_refuses 579 = .ok (.iload 7, 2) := by decide +kernel
theorem dL_refuses_581 : decode cL_refuses 581 = .ok (.iload 5, 2) := by decide +kernel
theorem dL_refuses_583 : decode cL_refuses 583 = .ok (.invokestatic 110, 3) := by decide +kernel
theorem dL_refuses_586 : decode cL_refuses 586 = .ok (.ldc 15, 2) := by decide +kernel
theorem dL_refuses_588 : decode cL_refuses 588 = .ok (.if_icmp .ne 104, 3) := by decide +kernel
theorem dL_refuses_591 : decode cL_refuses 591 = .ok (.aload_n 0, 1) := by decide +kernel
theorem dL_refuses_592 : decode cL_refuses 592 = .ok (.iload 7, 2) := by decide +kernel
theorem dL_refuses_594 : decode cL_refuses 594 = .ok (.iconst 2, 1) := by decide +kernel
theorem dL_refuses_595 : decode cL_refuses 595 = .ok (.iload_n 2, 1) := by decide +kernel
theorem dL_refuses_596 : decode cL_refuses 596 = .ok (.iadd, 1) := by decide +kernel
theorem dL_refuses_597 : decode cL_refuses 597 = .ok (.iconst 0, 1) := by decide +kernel
theorem dL_refuses_598 : decode cL_refuses 598 = .ok (.invokestatic 113, 3) := by decide +kernel
theorem dL_refuses_601 : decode cL_refuses 601 = .ok (.ldc 15, 2) := by decide +kernel
theorem dL_refuses_603 : decode cL_refuses 603 = .ok (.if_icmp .ne 89, 3) := by decide +kernel
theorem dL_refuses_606 : decode cL_refuses 606 = .ok (.aload_n 0, 1) := by decide +kernel
theorem dL_refuses_607 : decode cL_refuses 607 = .ok (.iload 7, 2) := by decide +kernel
theorem dL_refuses_609 : decode cL_refuses 609 = .ok (.iconst 0, 1) := by decide +kernel
theorem dL_refuses_610 : decode cL_refuses 610 = .ok (.iload 5, 2) := by decide +kernel
theorem dL_refuses_612 : decode cL_refuses 612 = .ok (.invokestatic 113, 3) := by decide +kernel
theorem dL_refuses_615 : decode cL_refuses 615 = .ok (.ldc 15, 2) := by decide +kernel
theorem dL_refuses_617 : decode cL_refuses 617 = .ok (.if_icmp .ne 75, 3) := by decide +kernel
theorem dL_refuses_620 : decode cL_refuses 620 = .ok (.aload_n 0, 1) := by decide +kernel
theorem dL_refuses_621 : decode cL_refuses 621 = .ok (.iload 7, 2) := by decide +kernel
theorem dL_refuses_623 : decode cL_refuses 623 = .ok (.iload 7, 2) := by decide +kernel
theorem dL_refuses_625 : decode cL_refuses 625 = .ok (.iconst 0, 1) := by decide +kernel
theorem dL_refuses_626 : decode cL_refuses 626 = .ok (.invokestatic 117, 3) := by decide +kernel
theorem dL_refuses_629 : decode cL_refuses 629 = .ok (.ldc 15, 2) := by decide +kernel
theorem dL_refuses_631 : decode cL_refuses 631 = .ok (.if_icmp .ne 61, 3) := by decide +kernel
theorem dL_refuses_634 : decode cL_refuses 634 = .ok (.aload_n 0, 1) := by decide +kernel
theorem dL_refuses_635 : decode cL_refuses 635 = .ok (.iload_n 3, 1) := by decide +kernel
theorem dL_refuses_636 : decode cL_refuses 636 = .ok (.iload 7, 2) := by decide +kernel
theorem dL_refuses_638 : decode cL_refuses 638 = .ok (.iconst 0, 1) := by decide +kernel
theorem dL_refuses_639 : decode cL_refuses 639 = .ok (.invokestatic 117, 3) := by decide +kernel
theorem dL_refuses_642 : decode cL_refuses 642 = .ok (.ldc 36, 2) := by decide +kernel
theorem dL_refuses_644 : decode cL_refuses 644 = .ok (.if_icmp .ne 48, 3) := by decide +kernel
theorem dL_refuses_647 : decode cL_refuses 647 = .ok (.aload_n 0, 1) := by decide +kernel
theorem dL_refuses_648 : decode cL_refuses 648 = .ok (.iload 7, 2) := by decide +kernel
theorem dL_refuses_650 : decode cL_refuses 650 = .ok (.iload 5, 2) := by decide +kernel
theorem dL_refuses_652 : decode cL_refuses 652 = .ok (.invokestatic 120, 3) := by decide +kernel
theorem dL_refuses_655 : decode cL_refuses 655 = .ok (.ldc 15, 2) := by decide +kernel
theorem dL_refuses_657 : decode cL_refuses 657 = .ok (.if_icmp .ne 35, 3) := by decide +kernel
theorem dL_refuses_660 : decode cL_refuses 660 = .ok (.aload_n 0, 1) := by decide +kernel
theorem dL_refuses_661 : decode cL_refuses 661 = .ok (.iload 7, 2) := by decide +kernel
theorem dL_refuses_663 : decode cL_refuses 663 = .ok (.iload_n 3, 1) := by decide +kernel
theorem dL_refuses_664 : decode cL_refuses 664 = .ok (.iconst 0, 1) := by decide +kernel
theorem dL_refuses_665 : decode cL_refuses 665 = .ok (.invokestatic 122, 3) := by decide +kernel
theorem dL_refuses_668 : decode cL_refuses 668 = .ok (.ldc 36, 2) := by decide +kernel
theorem dL_refuses_670 : decode cL_refuses 670 = .ok (.if_icmp .ne 22, 3) := by decide +kernel
theorem dL_refuses_673 : decode cL_refuses 673 = .ok (.aload_n 0, 1) := by decide +kernel
theorem dL_refuses_674 : decode cL_refuses 674 = .ok (.iload 7, 2) := by decide +kernel
theorem dL_refuses_676 : decode cL_refuses 676 = .ok (.iload 7, 2) := by decide +kernel
theorem dL_refuses_678 : decode cL_refuses 678 = .ok (.iload 5, 2) := by decide +kernel
theorem dL_refuses_680 : decode cL_refuses 680 = .ok (.invokestatic 122, 3) := by decide +kernel
theorem dL_refuses_683 : decode cL_refuses 683 = .ok (.ldc 15, 2) := by decide +kernel
theorem dL_refuses_685 : decode cL_refuses 685 = .ok (.if_icmp .ne 7, 3) := by decide +kernel
theorem dL_refuses_688 : decode cL_refuses 688 = .ok (.iconst 1, 1) := by decide +kernel
theorem dL_refuses_689 : decode cL_refuses 689 = .ok (.goto 4, 3) := by decide +kernel
theorem dL_refuses_692 : decode cL_refuses 692 = .ok (.iconst 0, 1) := by decide +kernel
theorem dL_refuses_693 : decode cL_refuses 693 = .ok (.istore 6, 2) := by decide +kernel
theorem dL_refuses_695 : decode cL_refuses 695 = .ok (.iload 7, 2) := by decide +kernel
theorem dL_refuses_697 : decode cL_refuses 697 = .ok (.iconst 1, 1) := by decide +kernel
theorem dL_refuses_698 : decode cL_refuses 698 = .ok (.iadd, 1) := by decide +kernel
theorem dL_refuses_699 : decode cL_refuses 699 = .ok (.aload_n 1, 1) := by decide +kernel
theorem dL_refuses_700 : decode cL_refuses 700 = .ok (.iconst 0, 1) := by decide +kernel
theorem dL_refuses_701 : decode cL_refuses 701 = .ok (.iaload, 1) := by decide +kernel
theorem dL_refuses_702 : decode cL_refuses 702 = .ok (.irem, 1) := by decide +kernel
theorem dL_refuses_703 : decode cL_refuses 703 = .ok (.istore 8, 2) := by decide +kernel
theorem dL_refuses_705 : decode cL_refuses 705 = .ok (.iload 6, 2) := by decide +kernel
theorem dL_refuses_707 : decode cL_refuses 707 = .ok (.ifCond .eq 61, 3) := by decide +kernel
theorem dL_refuses_710 : decode cL_refuses 710 = .ok (.iload 8, 2) := by decide +kernel
theorem dL_refuses_712 : decode cL_refuses 712 = .ok (.iload 7, 2) := by decide +kernel
theorem dL_refuses_714 : decode cL_refuses 714 = .ok (.if_icmp .eq 50, 3) := by decide +kernel
theorem dL_refuses_717 : decode cL_refuses 717 = .ok (.aload_n 0, 1) := by decide +kernel
theorem dL_refuses_718 : decode cL_refuses 718 = .ok (.iload 7, 2) := by decide +kernel
theorem dL_refuses_720 : decode cL_refuses 720 = .ok (.iload 8, 2) := by decide +kernel
theorem dL_refuses_722 : decode cL_refuses 722 = .ok (.iconst 3, 1) := by decide +kernel
theorem dL_refuses_723 : decode cL_refuses 723 = .ok (.iload_n 2, 1) := by decide +kernel
theorem dL_refuses_724 : decode cL_refuses 724 = .ok (.iadd, 1) := by decide +kernel
theorem dL_refuses_725 : decode cL_refuses 725 = .ok (.invokestatic 102, 3) := by decide +kernel
theorem dL_refuses_728 : decode cL_refuses 728 = .ok (.ldc 15, 2) := by decide +kernel
theorem dL_refuses_730 : decode cL_refuses 730 = .ok (.if_icmp .ne 38, 3) := by decide +kernel
theorem dL_refuses_733 : decode cL_refuses 733 = .ok (.aload_n 0, 1) := by decide +kernel
theorem dL_refuses_734 : decode cL_refuses 734 = .ok (.iload 7, 2) := by decide +kernel
theorem dL_refuses_736 : decode cL_refuses 736 = .ok (.iload 8, 2) := by decide +kernel
theorem dL_refuses_738 : decode cL_refuses 738 = .ok (.iconst (-1), 1) := by decide +kernel
theorem dL_refuses_739 : decode cL_refuses 739 = .ok (.iload_n 2, 1) := by decide +kernel
theorem dL_refuses_740 : decode cL_refuses 740 = .ok (.isub, 1) := by decide +kernel
theorem dL_refuses_741 : decode cL_refuses 741 = .ok (.invokestatic 102, 3) := by decide +kernel
theorem dL_refuses_744 : decode cL_refuses 744 = .ok (.ldc 15, 2) := by decide +kernel
theorem dL_refuses_746 : decode cL_refuses 746 = .ok (.if_icmp .ne 22, 3) := by decide +kernel
theorem dL_refuses_749 : decode cL_refuses 749 = .ok (.aload_n 0, 1) := by decide +kernel
