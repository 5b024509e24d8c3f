theorem dX5_value_0 : decode cX5_value 0 = .ok (.aload_n 0, 1) := by decide +kernel
theorem dX5_value_1 : decode cX5_value 1 = .ok (.iload_n 1, 1) := by decide +kernel
theorem dX5_value_2 : decode cX5_value 2 = .ok (.invokevirtual 88, 3) := by decide +kernel
theorem dX5_value_5 : decode cX5_value 5 = .ok (.iload_n 2, 1) := by decide +kernel
theorem dX5_value_6 : decode cX5_value 6 = .ok (.invokestatic 124, 3) := by decide +kernel
theorem dX5_value_9 : decode cX5_value 9 = .ok (.iload_n 3, 1) := by decide +kernel
theorem dX5_value_10 : decode cX5_value 10 = .ok (.invokestatic 104, 3) := by decide +kernel
theorem dX5_value_13 : decode cX5_value 13 = .ok (.aload_n 0, 1) := by decide +kernel
theorem dX5_value_14 : decode cX5_value 14 = .ok (.getfield 46, 3) := by decide +kernel
theorem dX5_value_17 : decode cX5_value 17 = .ok (.iload_n 3, 1) := by decide +kernel
theorem dX5_value_18 : decode cX5_value 18 = .ok (.invokevirtual 111, 3) := by decide +kernel
theorem dX5_value_21 : decode cX5_value 21 = .ok (.aload_n 0, 1) := by decide +kernel
theorem dX5_value_22 : decode cX5_value 22 = .ok (.iload_n 1, 1) := by decide +kernel
theorem dX5_value_23 : decode cX5_value 23 = .ok (.invokevirtual 118, 3) := by decide +kernel
theorem dX5_value_26 : decode cX5_value 26 = .ok (.aload_n 0, 1) := by decide +kernel
theorem dX5_value_27 : decode cX5_value 27 = .ok (.getfield 46, 3) := by decide +kernel
theorem dX5_value_30 : decode cX5_value 30 = .ok (.aload_n 0, 1) := by decide +kernel
theorem dX5_value_31 : decode cX5_value 31 = .ok (.getfield 46, 3) := by decide +kernel
theorem dX5_value_34 : decode cX5_value 34 = .ok (.getfield 121, 3) := by decide +kernel
theorem dX5_value_37 : decode cX5_value 37 = .ok (.iload_n 1, 1) := by decide +kernel
theorem dX5_value_38 : decode cX5_value 38 = .ok (.iaload, 1) := by decide +kernel
theorem dX5_value_39 : decode cX5_value 39 = .ok (.iload_n 2, 1) := by decide +kernel
theorem dX5_value_40 : decode cX5_value 40 = .ok (.invokevirtual 127, 3) := by decide +kernel
theorem dX5_value_43 : decode cX5_value 43 = .ok (.ireturn, 1) := by decide +kernel
set_option maxRecDepth 20000 in
theorem ggX5_disputed_X5_requireAttribute : GoodIn wsX5_disputed wsX5_requireAttribute := goodIn_ca (goodIn_r _ [7, 8, 9, 6, 10, 11, 12] (by decide +kernel) (by decide +kernel)) (goodIn_sub (fun _ h => List.mem_cons_of_mem _ (List.mem_append_right _ h)) (by decide +kernel))
set_option maxRecDepth 20000 in
theorem gX5_disputed_X5_requireAttribute : GoodIn wsX5_disputed (va_wsS RX5 124 yX5_requireAttribute wsX5_requireAttribute) := goodIn_app (goodIn_of _ (by decide +kernel)) ggX5_disputed_X5_requireAttribute
set_option maxRecDepth 20000 in
theorem ggX5_disputed_X5_requireDay : GoodIn wsX5_disputed wsX5_requireDay := goodIn_ca (goodIn_r _ [15, 8, 9, 6, 10, 11, 12] (by decide +kernel) (by decide +kernel)) (goodIn_sub (fun _ h => List.mem_cons_of_mem _ (List.mem_append_right _ h)) (by decide +kernel))
set_option maxRecDepth 20000 in
theorem gX5_disputed_X5_requireDay : GoodIn wsX5_disputed (va_wsS RX5 104 yX5_requireDay wsX5_requireDay) := goodIn_app (goodIn_of _ (by decide +kernel)) ggX5_disputed_X5_requireDay
set_option maxRecDepth 20000 in
theorem ggX5_disputed_X3_sortFor : GoodIn wsX5_disputed wsX3_sortFor := goodIn_r _ [20, 21, 22, 23, 24, 25, 26, 27, 28, 29, 30, 31, 32, 33, 34, 35, 36, 19, 37, 38, 39, 40, 41, 42, 43, 44, 45, 46, 47, 48, 49, 50, 51, 52, 53, 54, 55, 56, 57, 58, 59, 60, 61, 62, 90, 91, 92, 83, 84, 85, 86, 87, 88, 89, 93, 94] (by decide +kernel) (by decide +kernel)
set_option maxRecDepth 20000 in
theorem gX5_disputed_X3_sortFor : GoodIn wsX5_disputed (wsV RX5 111 RX3 yX3_sortFor wsX3_sortFor) := goodIn_app (goodIn_of _ (by decide +kernel)) ggX5_disputed_X3_sortFor
set_option maxRecDepth 20000 in
theorem ggX5_disputed_X3_isThing : GoodIn wsX5_disputed wsX3_isThing := goodIn_r _ [66, 23, 90, 91, 92] (by decide +kernel) (by decide +kernel)
set_option maxRecDepth 20000 in
theorem gX5_disputed_X3_isThing : GoodIn wsX5_disputed (wsV RX5 114 RX3 yX3_isThing wsX3_isThing) := goodIn_app (goodIn_of _ (by decide +kernel)) ggX5_disputed_X3_isThing
set_option maxRecDepth 20000 in
theorem ggX5_disputed_X3_hasUnlikeValues : GoodIn wsX5_disputed wsX3_hasUnlikeValues := goodIn_r _ [70, 21, 22, 71, 72, 73, 74, 19, 75, 23, 90, 91, 92, 83, 84, 85, 86, 87, 88, 89] (by decide +kernel) (by decide +kernel)
set_option maxRecDepth 20000 in
theorem gX5_disputed_X3_hasUnlikeValues : GoodIn wsX5_disputed (wsV RX5 130 RX3 yX3_hasUnlikeValues wsX3_hasUnlikeValues) := goodIn_app (goodIn_of _ (by decide +kernel)) ggX5_disputed_X3_hasUnlikeValues
theorem dX5_disputed_0 : decode cX5_disputed 0 = .ok (.iload_n 1, 1) := by decide +kernel
theorem dX5_disputed_1 : decode cX5_disputed 1 = .ok (.invokestatic 124, 3) := by decide +kernel
theorem dX5_disputed_4 : decode cX5_disputed 4 = .ok (.iload_n 2, 1) := by decide +kernel
theorem dX5_disputed_5 : decode cX5_disputed 5 = .ok (.invokestatic 104, 3) := by decide +kernel
theorem dX5_disputed_8 : decode cX5_disputed 8 = .ok (.aload_n 0, 1) := by decide +kernel
theorem dX5_disputed_9 : decode cX5_disputed 9 = .ok (.getfield 46, 3) := by decide +kernel
theorem dX5_disputed_12 : decode cX5_disputed 12 = .ok (.iload_n 2, 1) := by decide +kernel
theorem dX5_disputed_13 : decode cX5_disputed 13 = .ok (.invokevirtual 111, 3) := by decide +kernel
theorem dX5_disputed_16 : decode cX5_disputed 16 = .ok (.iconst 0, 1) := by decide +kernel
theorem dX5_disputed_17 : decode cX5_disputed 17 = .ok (.istore_n 3, 1) := by decide +kernel
theorem dX5_disputed_18 : decode cX5_disputed 18 = .ok (.iconst 0, 1) := by decide +kernel
theorem dX5_disputed_19 : decode cX5_disputed 19 = .ok (.istore 4, 2) := by decide +kernel
theorem dX5_disputed_21 : decode cX5_disputed 21 = .ok (.iload 4, 2) := by decide +kernel
theorem dX5_disputed_23 : decode cX5_disputed 23 = .ok (.aload_n 0, 1) := by decide +kernel
theorem dX5_disputed_24 : decode cX5_disputed 24 = .ok (.getfield 23, 3) := by decide +kernel
theorem dX5_disputed_27 : decode cX5_disputed 27 = .ok (.getfield 72, 3) := by decide +kernel
theorem dX5_disputed_30 : decode cX5_disputed 30 = .ok (.if_icmp .ge 37, 3) := by decide +kernel
theorem dX5_disputed_33 : decode cX5_disputed 33 = .ok (.aload_n 0, 1) := by decide +kernel
theorem dX5_disputed_34 : decode cX5_disputed 34 = .ok (.getfield 46, 3) := by decide +kernel
theorem dX5_disputed_37 : decode cX5_disputed 37 = .ok (.iload 4, 2) := by decide +kernel
theorem dX5_disputed_39 : decode cX5_disputed 39 = .ok (.invokevirtual 114, 3) := by decide +kernel
theorem dX5_disputed_42 : decode cX5_disputed 42 = .ok (.ifCond .eq 19, 3) := by decide +kernel
theorem dX5_disputed_45 : decode cX5_disputed 45 = .ok (.aload_n 0, 1) := by decide +kernel
theorem dX5_disputed_46 : decode cX5_disputed 46 = .ok (.getfield 46, 3) := by decide +kernel
theorem dX5_disputed_49 : decode cX5_disputed 49 = .ok (.iload 4, 2) := by decide +kernel
theorem dX5_disputed_51 : decode cX5_disputed 51 = .ok (.iload_n 1, 1) := by decide +kernel
theorem dX5_disputed_52 : decode cX5_disputed 52 = .ok (.invokevirtual 130, 3) := by decide +kernel
theorem dX5_disputed_55 : decode cX5_disputed 55 = .ok (.ifCond .eq 6, 3) := by decide +kernel
theorem dX5_disputed_58 : decode cX5_disputed 58 = .ok (.iinc 3 1, 3) := by decide +kernel
theorem dX5_disputed_61 : decode cX5_disputed 61 = .ok (.iinc 4 1, 3) := by decide +kernel
theorem dX5_disputed_64 : decode cX5_disputed 64 = .ok (.goto (-43), 3) := by decide +kernel
theorem dX5_disputed_67 : decode cX5_disputed 67 = .ok (.iload_n 3, 1) := by decide +kernel
theorem dX5_disputed_68 : decode cX5_disputed 68 = .ok (.ireturn, 1) := by decide +kernel
set_option maxRecDepth 20000 in
theorem ggX5_link_X5_requireFind : GoodIn wsX5_link wsX5_requireFind := goodIn_ca (goodIn_r _ [9, 10, 11, 12, 13, 31, 32, 33, 34, 35, 36, 37, 43, 44, 45, 46, 47, 48, 49] (by decide +kernel) (by decide +kernel)) (goodIn_sub (fun _ h => List.mem_cons_of_mem _ (List.mem_append_left _ (List.mem_append_right _ h))) (by decide +kernel))
set_option maxRecDepth 20000 in
theorem gX5_link_X5_requireFind : GoodIn wsX5_link (wsV RX5 88 RX5 yX5_requireFind wsX5_requireFind) := goodIn_app (goodIn_of _ (by decide +kernel)) ggX5_link_X5_requireFind
set_option maxRecDepth 20000 in
theorem ggX5_link_X5_requireUnlike : GoodIn wsX5_link wsX5_requireUnlike := goodIn_ca (goodIn_r _ [16, 17, 18] (by decide +kernel) (by decide +kernel)) (goodIn_sub (fun _ h => List.mem_cons_of_mem _ (List.mem_append_right _ h)) (by decide +kernel))
set_option maxRecDepth 20000 in
theorem gX5_link_X5_requireUnlike : GoodIn wsX5_link (va_wsS RX5 96 yX5_requireUnlike wsX5_requireUnlike) := goodIn_app (goodIn_of _ (by decide +kernel)) ggX5_link_X5_requireUnlike
set_option maxRecDepth 20000 in
theorem ggX5_link_X5_requireRange : GoodIn wsX5_link wsX5_requireRange := goodIn_ca (goodIn_r _ [21, 17, 18] (by decide +kernel) (by decide +kernel)) (goodIn_sub (fun _ h => List.mem_cons_of_mem _ (List.mem_append_right _ h)) (by decide +kernel))
set_option maxRecDepth 20000 in
theorem gX5_link_X5_requireRange : GoodIn wsX5_link (va_wsS RX5 53 yX5_requireRange wsX5_requireRange) := goodIn_app (goodIn_of _ (by decide +kernel)) ggX5_link_X5_requireRange
set_option maxRecDepth 20000 in
theorem ggX5_link_X1_add : GoodIn wsX5_link wsX1_add := goodIn_r _ [26, 27, 28, 29, 30, 38, 39, 40, 41, 42] (by decide +kernel) (by decide +kernel)
set_option maxRecDepth 20000 in
theorem gX5_link_X1_add : GoodIn wsX5_link (wsV RX5 137 RX1 yX1_add wsX1_add) := goodIn_app (goodIn_of _ (by decide +kernel)) ggX5_link_X1_add
theorem dX5_link_0 : decode cX5_link 0 = .ok (.aload_n 0, 1) := by decide +kernel
theorem dX5_link_1 : decode cX5_link 1 = .ok (.iload_n 1, 1) := by decide +kernel
theorem dX5_link_2 : decode cX5_link 2 = .ok (.invokevirtual 88, 3) := by decide +kernel
theorem dX5_link_5 : decode cX5_link 5 = .ok (.aload_n 0, 1) := by decide +kernel
theorem dX5_link_6 : decode cX5_link 6 = .ok (.iload_n 2, 1) := by decide +kernel
theorem dX5_link_7 : decode cX5_link 7 = .ok (.invokevirtual 88, 3) := by decide +kernel
theorem dX5_link_10 : decode cX5_link 10 = .ok (.iload_n 1, 1) := by decide +kernel
theorem dX5_link_11 : decode cX5_link 11 = .ok (.iload_n 2, 1) := by decide +kernel
theorem dX5_link_12 : decode cX5_link 12 = .ok (.invokestatic 96, 3) := by decide +kernel
theorem dX5_link_15 : decode cX5_link 15 = .ok (.iload_n 3, 1) := by decide +kernel
theorem dX5_link_16 : decode cX5_link 16 = .ok (.iconst 0, 1) := by decide +kernel
theorem dX5_link_17 : decode cX5_link 17 = .ok (.iconst 3, 1) := by decide +kernel
theorem dX5_link_18 : decode cX5_link 18 = .ok (.invokestatic 53, 3) := by decide +kernel
theorem dX5_link_21 : decode cX5_link 21 = .ok (.aload_n 0, 1) := by decide +kernel
theorem dX5_link_22 : decode cX5_link 22 = .ok (.getfield 30, 3) := by decide +kernel
theorem dX5_link_25 : decode cX5_link 25 = .ok (.getfield 134, 3) := by decide +kernel
theorem dX5_link_28 : decode cX5_link 28 = .ok (.bipush 40, 2) := by decide +kernel
theorem dX5_link_30 : decode cX5_link 30 = .ok (.if_icmp .lt 13, 3) := by decide +kernel
theorem dX5_link_33 : decode cX5_link 33 = .ok (.new 57, 3) := by decide +kernel
theorem dX5_link_36 : decode cX5_link 36 = .ok (.dup, 1) := by decide +kernel
theorem dX5_link_37 : decode cX5_link 37 = .ok (.ldc 135, 2) := by decide +kernel
theorem dX5_link_39 : decode cX5_link 39 = .ok (.invokespecial 61, 3) := by decide +kernel
theorem dX5_link_42 : decode cX5_link 42 = .ok (.athrow, 1) := by decide +kernel
theorem dX5_link_43 : decode cX5_link 43 = .ok (.aload_n 0, 1) := by decide +kernel
theorem dX5_link_44 : decode cX5_link 44 = .ok (.getfield 30, 3) := by decide +kernel
theorem dX5_link_47 : decode cX5_link 47 = .ok (.iload_n 1, 1) := by decide +kernel
theorem dX5_link_48 : decode cX5_link 48 = .ok (.iload_n 2, 1) := by decide +kernel
theorem dX5_link_49 : decode cX5_link 49 = .ok (.iload_n 3, 1) := by decide +kernel
theorem dX5_link_50 : decode cX5_link 50 = .ok (.invokevirtual 137, 3) := by decide +kernel
theorem dX5_link_53 : decode cX5_link 53 = .ok (.aload_n 0, 1) := by decide +kernel
theorem dX5_link_54 : decode cX5_link 54 = .ok (.getfield 30, 3) := by decide +kernel
theorem dX5_link_57 : decode cX5_link 57 = .ok (.getfield 134, 3) := by decide +kernel
theorem dX5_link_60 : decode cX5_link 60 = .ok (.ireturn, 1) := by decide +kernel
set_option maxRecDepth 20000 in
theorem ggX5_impact_X5_requireFind : GoodIn wsX5_impact wsX5_requireFind := goodIn_ca (goodIn_r _ [8, 9, 10, 11, 12, 101, 102, 103, 104, 105, 106, 107, 111, 112, 113, 114, 115, 116, 117] (by decide +kernel) (by decide +kernel)) (goodIn_sub (fun _ h => List.mem_cons_of_mem _ (List.mem_append_left _ (List.mem_append_left _ (List.mem_append_right _ h)))) (by decide +kernel))
set_option maxRecDepth 20000 in
theorem gX5_impact_X5_requireFind : GoodIn wsX5_impact (wsV RX5 88 RX5 yX5_requireFind wsX5_requireFind) := goodIn_app (goodIn_of _ (by decide +kernel)) ggX5_impact_X5_requireFind
set_option maxRecDepth 20000 in
theorem ggX5_impact_X5_requireDay : GoodIn wsX5_impact wsX5_requireDay := goodIn_ca (goodIn_r _ [15, 16, 17, 7, 18, 19, 20] (by decide +kernel) (by decide +kernel)) (goodIn_sub (fun _ h => List.mem_cons_of_mem _ (List.mem_append_left _ (List.mem_append_right _ h))) (by decide +kernel))
set_option maxRecDepth 20000 in
theorem gX5_impact_X5_requireDay : GoodIn wsX5_impact (va_wsS RX5 104 yX5_requireDay wsX5_requireDay) := goodIn_app (goodIn_of _ (by decide +kernel)) ggX5_impact_X5_requireDay
set_option maxRecDepth 20000 in
theorem ggX5_impact_X3_sortFor : GoodIn wsX5_impact wsX3_sortFor := goodIn_r _ [25, 26, 27, 28, 29, 30, 31, 32, 33, 34, 35, 36, 37, 38, 39, 40, 41, 24, 42, 43, 44, 45, 46, 47, 48, 49, 50, 51, 52, 53, 54, 55, 56, 57, 58, 59, 60, 61, 62, 63, 64, 65, 66, 67, 108, 109, 110, 111, 112, 113, 114, 115, 116, 117, 118, 119] (by decide +kernel) (by decide +kernel)
set_option maxRecDepth 20000 in
theorem gX5_impact_X3_sortFor : GoodIn wsX5_impact (wsV RX5 111 RX3 yX3_sortFor wsX3_sortFor) := goodIn_app (goodIn_of _ (by decide +kernel)) ggX5_impact_X3_sortFor
set_option maxRecDepth 20000 in
theorem ggX5_impact_X5_requireCounting : GoodIn wsX5_impact wsX5_requireCounting := goodIn_ca (goodIn_r _ [71, 72, 73, 1, 3, 101, 102, 103, 104, 105, 106, 107, 108, 109, 110] (by decide +kernel) (by decide +kernel)) (goodIn_sub (fun _ h => List.mem_cons_of_mem _ (List.mem_append_right _ h)) (by decide +kernel))
set_option maxRecDepth 20000 in
theorem gX5_impact_X5_requireCounting : GoodIn wsX5_impact (wsV RX5 118 RX5 yX5_requireCounting wsX5_requireCounting) := goodIn_app (goodIn_of _ (by decide +kernel)) ggX5_impact_X5_requireCounting
set_option maxRecDepth 20000 in
theorem ggX5_impact_X1_failFrom : GoodIn wsX5_impact wsX1_failFrom := goodIn_r _ [78, 79, 80, 81, 82, 77, 83, 84, 85, 86, 87, 88, 89, 90, 91, 92, 93, 94, 95, 96, 120, 121, 122, 123, 124, 108, 109, 110] (by decide +kernel) (by decide +kernel)
set_option maxRecDepth 20000 in
theorem gX5_impact_X1_failFrom : GoodIn wsX5_impact (wsV RX5 140 RX1 yX1_failFrom wsX1_failFrom) := goodIn_app (goodIn_of _ (by decide +kernel)) ggX5_impact_X1_failFrom
set_option maxRecDepth 20000 in
theorem ggX5_impact_X1_failures : GoodIn wsX5_impact wsX1_failures := goodIn_r _ [100, 79, 120, 121, 122, 123, 124] (by decide +kernel) (by decide +kernel)
set_option maxRecDepth 20000 in
theorem gX5_impact_X1_failures : GoodIn wsX5_impact (wsV RX5 144 RX1 yX1_failures wsX1_failures) := goodIn_app (goodIn_of _ (by decide +kernel)) ggX5_impact_X1_failures
theorem dX5_impact_0 : decode cX5_impact 0 = .ok (.aload_n 0, 1) := by decide +kernel
theorem dX5_impact_1 : decode cX5_impact 1 = .ok (.iload_n 1, 1) := by decide +kernel
theorem dX5_impact_2 : decode cX5_impact 2 = .ok (.invokevirtual 88, 3) := by decide +kernel
theorem dX5_impact_5 : decode cX5_impact 5 = .ok (.iload_n 2, 1) := by decide +kernel
theorem dX5_impact_6 : decode cX5_impact 6 = .ok (.invokestatic 104, 3) := by decide +kernel
theorem dX5_impact_9 : decode cX5_impact 9 = .ok (.aload_n 0, 1) := by decide +kernel
theorem dX5_impact_10 : decode cX5_impact 10 = .ok (.getfield 46, 3) := by decide +kernel
theorem dX5_impact_13 : decode cX5_impact 13 = .ok (.iload_n 2, 1) := by decide +kernel
theorem dX5_impact_14 : decode cX5_impact 14 = .ok (.invokevirtual 111, 3) := by decide +kernel
theorem dX5_impact_17 : decode cX5_impact 17 = .ok (.aload_n 0, 1) := by decide +kernel
theorem dX5_impact_18 : decode cX5_impact 18 = .ok (.iload_n 1, 1) := by decide +kernel
theorem dX5_impact_19 : decode cX5_impact 19 = .ok (.invokevirtual 118, 3) := by decide +kernel
theorem dX5_impact_22 : decode cX5_impact 22 = .ok (.aload_n 0, 1) := by decide +kernel
theorem dX5_impact_23 : decode cX5_impact 23 = .ok (.getfield 30, 3) := by decide +kernel
theorem dX5_impact_26 : decode cX5_impact 26 = .ok (.aload_n 0, 1) := by decide +kernel
theorem dX5_impact_27 : decode cX5_impact 27 = .ok (.getfield 46, 3) := by decide +kernel
theorem dX5_impact_30 : decode cX5_impact 30 = .ok (.getfield 121, 3) := by decide +kernel
theorem dX5_impact_33 : decode cX5_impact 33 = .ok (.iload_n 1, 1) := by decide +kernel
theorem dX5_impact_34 : decode cX5_impact 34 = .ok (.iaload, 1) := by decide +kernel
theorem dX5_impact_35 : decode cX5_impact 35 = .ok (.aload_n 0, 1) := by decide +kernel
theorem dX5_impact_36 : decode cX5_impact 36 = .ok (.getfield 46, 3) := by decide +kernel
theorem dX5_impact_39 : decode cX5_impact 39 = .ok (.invokevirtual 140, 3) := by decide +kernel
theorem dX5_impact_42 : decode cX5_impact 42 = .ok (.aload_n 0, 1) := by decide +kernel
theorem dX5_impact_43 : decode cX5_impact 43 = .ok (.getfield 30, 3) := by decide +kernel
theorem dX5_impact_46 : decode cX5_impact 46 = .ok (.invokevirtual 144, 3) := by decide +kernel
theorem dX5_impact_49 : decode cX5_impact 49 = .ok (.ireturn, 1) := by decide +kernel
set_option maxRecDepth 20000 in
theorem ggX5_failsWith_X5_requireFind : GoodIn wsX5_failsWith wsX5_requireFind := goodIn_ca (goodIn_r _ [9, 10, 11, 12, 13, 98, 99, 100, 101, 102, 103, 104, 113, 114, 115, 116, 117, 118, 119] (by decide +kernel) (by decide +kernel)) (goodIn_sub (fun _ h => List.mem_cons_of_mem _ (List.mem_append_left _ (List.mem_append_left _ (List.mem_append_right _ h)))) (by decide +kernel))
set_option maxRecDepth 20000 in
theorem gX5_failsWith_X5_requireFind : GoodIn wsX5_failsWith (wsV RX5 88 RX5 yX5_requireFind wsX5_requireFind) := goodIn_app (goodIn_of _ (by decide +kernel)) ggX5_failsWith_X5_requireFind
set_option maxRecDepth 20000 in
theorem ggX5_failsWith_X5_requireDay : GoodIn wsX5_failsWith wsX5_requireDay := goodIn_ca (goodIn_r _ [16, 17, 18, 8, 19, 20, 21] (by decide +kernel) (by decide +kernel)) (goodIn_sub (fun _ h => List.mem_cons_of_mem _ (List.mem_append_left _ (List.mem_append_right _ h))) (by decide +kernel))
set_option maxRecDepth 20000 in
theorem gX5_failsWith_X5_requireDay : GoodIn wsX5_failsWith (va_wsS RX5 104 yX5_requireDay wsX5_requireDay) := goodIn_app (goodIn_of _ (by decide +kernel)) ggX5_failsWith_X5_requireDay
set_option maxRecDepth 20000 in
theorem ggX5_failsWith_X3_sortFor : GoodIn wsX5_failsWith wsX3_sortFor := goodIn_r _ [26, 27, 28, 29, 30, 31, 32, 33, 34, 35, 36, 37, 38, 39, 40, 41, 42, 25, 43, 44, 45, 46, 47, 48, 49, 50, 51, 52, 53, 54, 55, 56, 57, 58, 59, 60, 61, 62, 63, 64, 65, 66, 67, 68, 105, 106, 107, 113, 114, 115, 116, 117, 118, 119, 120, 121] (by decide +kernel) (by decide +kernel)
set_option maxRecDepth 20000 in
theorem gX5_failsWith_X3_sortFor : GoodIn wsX5_failsWith (wsV RX5 111 RX3 yX3_sortFor wsX3_sortFor) := goodIn_app (goodIn_of _ (by decide +kernel)) ggX5_failsWith_X3_sortFor
set_option maxRecDepth 20000 in
theorem ggX5_failsWith_X5_requireCounting : GoodIn wsX5_failsWith wsX5_requireCounting := goodIn_ca (goodIn_r _ [72, 73, 74, 1, 3, 98, 99, 100, 101, 102, 103, 104, 105, 106, 107] (by decide +kernel) (by decide +kernel)) (goodIn_sub (fun _ h => List.mem_cons_of_mem _ (List.mem_append_right _ h)) (by decide +kernel))
set_option maxRecDepth 20000 in
theorem gX5_failsWith_X5_requireCounting : GoodIn wsX5_failsWith (wsV RX5 118 RX5 yX5_requireCounting wsX5_requireCounting) := goodIn_app (goodIn_of _ (by decide +kernel)) ggX5_failsWith_X5_requireCounting
set_option maxRecDepth 20000 in
theorem ggX5_failsWith_X1_failFrom : GoodIn wsX5_failsWith wsX1_failFrom := goodIn_r _ [79, 80, 81, 82, 83, 78, 84, 85, 86, 87, 88, 89, 90, 91, 92, 93, 94, 95, 96, 97, 108, 109, 110, 111, 112, 105, 106, 107] (by decide +kernel) (by decide +kernel)
set_option maxRecDepth 20000 in
theorem gX5_failsWith_X1_failFrom : GoodIn wsX5_failsWith (wsV RX5 140 RX1 yX1_failFrom wsX1_failFrom) := goodIn_app (goodIn_of _ (by decide +kernel)) ggX5_failsWith_X1_failFrom
theorem dX5_failsWith_0 : decode cX5_failsWith 0 = .ok (.aload_n 0, 1) := by decide +kernel
theorem dX5_failsWith_1 : decode cX5_failsWith 1 = .ok (.iload_n 1, 1) := by decide +kernel
theorem dX5_failsWith_2 : decode cX5_failsWith 2 = .ok (.invokevirtual 88, 3) := by decide +kernel
theorem dX5_failsWith_5 : decode cX5_failsWith 5 = .ok (.aload_n 0, 1) := by decide +kernel
theorem dX5_failsWith_6 : decode cX5_failsWith 6 = .ok (.iload_n 2, 1) := by decide +kernel
theorem dX5_failsWith_7 : decode cX5_failsWith 7 = .ok (.invokevirtual 88, 3) := by decide +kernel
theorem dX5_failsWith_10 : decode cX5_failsWith 10 = .ok (.iload_n 3, 1) := by decide +kernel
theorem dX5_failsWith_11 : decode cX5_failsWith 11 = .ok (.invokestatic 104, 3) := by decide +kernel
theorem dX5_failsWith_14 : decode cX5_failsWith 14 = .ok (.aload_n 0, 1) := by decide +kernel
theorem dX5_failsWith_15 : decode cX5_failsWith 15 = .ok (.getfield 46, 3) := by decide +kernel
theorem dX5_failsWith_18 : decode cX5_failsWith 18 = .ok (.iload_n 3, 1) := by decide +kernel
theorem dX5_failsWith_19 : decode cX5_failsWith 19 = .ok (.invokevirtual 111, 3) := by decide +kernel
theorem dX5_failsWith_22 : decode cX5_failsWith 22 = .ok (.aload_n 0, 1) := by decide +kernel
theorem dX5_failsWith_23 : decode cX5_failsWith 23 = .ok (.iload_n 1, 1) := by decide +kernel
theorem dX5_failsWith_24 : decode cX5_failsWith 24 = .ok (.invokevirtual 118, 3) := by decide +kernel
theorem dX5_failsWith_27 : decode cX5_failsWith 27 = .ok (.aload_n 0, 1) := by decide +kernel
theorem dX5_failsWith_28 : decode cX5_failsWith 28 = .ok (.iload_n 2, 1) := by decide +kernel
theorem dX5_failsWith_29 : decode cX5_failsWith 29 = .ok (.invokevirtual 118, 3) := by decide +kernel
theorem dX5_failsWith_32 : decode cX5_failsWith 32 = .ok (.aload_n 0, 1) := by decide +kernel
theorem dX5_failsWith_33 : decode cX5_failsWith 33 = .ok (.getfield 30, 3) := by decide +kernel
theorem dX5_failsWith_36 : decode cX5_failsWith 36 = .ok (.aload_n 0, 1) := by decide +kernel
theorem dX5_failsWith_37 : decode cX5_failsWith 37 = .ok (.getfield 46, 3) := by decide +kernel
theorem dX5_failsWith_40 : decode cX5_failsWith 40 = .ok (.getfield 121, 3) := by decide +kernel
theorem dX5_failsWith_43 : decode cX5_failsWith 43 = .ok (.iload_n 2, 1) := by decide +kernel
theorem dX5_failsWith_44 : decode cX5_failsWith 44 = .ok (.iaload, 1) := by decide +kernel
theorem dX5_failsWith_45 : decode cX5_failsWith 45 = .ok (.aload_n 0, 1) := by decide +kernel
theorem dX5_failsWith_46 : decode cX5_failsWith 46 = .ok (.getfield 46, 3) := by decide +kernel
theorem dX5_failsWith_49 : decode cX5_failsWith 49 = .ok (.invokevirtual 140, 3) := by decide +kernel
theorem dX5_failsWith_52 : decode cX5_failsWith 52 = .ok (.aload_n 0, 1) := by decide +kernel
theorem dX5_failsWith_53 : decode cX5_failsWith 53 = .ok (.getfield 30, 3) := by decide +kernel
theorem dX5_failsWith_56 : decode cX5_failsWith 56 = .ok (.getfield 148, 3) := by decide +kernel
theorem dX5_failsWith_59 : decode cX5_failsWith 59 = .ok (.aload_n 0, 1) := by decide +kernel
theorem dX5_failsWith_60 : decode cX5_failsWith 60 = .ok (.getfield 46, 3) := by decide +kernel
theorem dX5_failsWith_63 : decode cX5_failsWith 63 = .ok (.getfield 121, 3) := by decide +kernel
theorem dX5_failsWith_66 : decode cX5_failsWith 66 = .ok (.iload_n 1, 1) := by decide +kernel
theorem dX5_failsWith_67 : decode cX5_failsWith 67 = .ok (.iaload, 1) := by decide +kernel
theorem dX5_failsWith_68 : decode cX5_failsWith 68 = .ok (.baload, 1) := by decide +kernel
theorem dX5_failsWith_69 : decode cX5_failsWith 69 = .ok (.ireturn, 1) := by decide +kernel
set_option maxRecDepth 20000 in
theorem ggX5_wish_X5_requireRange : GoodIn wsX5_wish wsX5_requireRange := goodIn_ca (goodIn_r _ [8, 9, 10] (by decide +kernel) (by decide +kernel)) (goodIn_sub (fun _ h => List.mem_cons_of_mem _ (List.mem_append_right _ h)) (by decide +kernel))
set_option maxRecDepth 20000 in
theorem gX5_wish_X5_requireRange : GoodIn wsX5_wish (va_wsS RX5 53 yX5_requireRange wsX5_requireRange) := goodIn_app (goodIn_of _ (by decide +kernel)) ggX5_wish_X5_requireRange
set_option maxRecDepth 20000 in
theorem ggX5_wish_X5_requireAttribute : GoodIn wsX5_wish wsX5_requireAttribute := goodIn_ca (goodIn_r _ [13, 5, 6, 7, 8, 9, 10] (by decide +kernel) (by decide +kernel)) (goodIn_sub (fun _ h => List.mem_cons_of_mem _ (List.mem_append_right _ h)) (by decide +kernel))
set_option maxRecDepth 20000 in
theorem gX5_wish_X5_requireAttribute : GoodIn wsX5_wish (va_wsS RX5 124 yX5_requireAttribute wsX5_requireAttribute) := goodIn_app (goodIn_of _ (by decide +kernel)) ggX5_wish_X5_requireAttribute
set_option maxRecDepth 20000 in
theorem ggX5_wish_X4_add : GoodIn wsX5_wish wsX4_add := goodIn_r _ [18, 19, 20, 21, 22, 23, 31, 32, 33, 34, 35] (by decide +kernel) (by decide +kernel)
set_option maxRecDepth 20000 in
theorem gX5_wish_X4_add : GoodIn wsX5_wish (wsV RX5 154 RX4 yX4_add wsX4_add) := goodIn_app (goodIn_of _ (by decide +kernel)) ggX5_wish_X4_add
theorem dX5_wish_0 : decode cX5_wish 0 = .ok (.iload_n 1, 1) := by decide +kernel
theorem dX5_wish_1 : decode cX5_wish 1 = .ok (.iconst 0, 1) := by decide +kernel
theorem dX5_wish_2 : decode cX5_wish 2 = .ok (.iconst 2, 1) := by decide +kernel
theorem dX5_wish_3 : decode cX5_wish 3 = .ok (.invokestatic 53, 3) := by decide +kernel
theorem dX5_wish_6 : decode cX5_wish 6 = .ok (.iload_n 2, 1) := by decide +kernel
theorem dX5_wish_7 : decode cX5_wish 7 = .ok (.iconst 1, 1) := by decide +kernel
theorem dX5_wish_8 : decode cX5_wish 8 = .ok (.bipush 99, 2) := by decide +kernel
theorem dX5_wish_10 : decode cX5_wish 10 = .ok (.invokestatic 53, 3) := by decide +kernel
theorem dX5_wish_13 : decode cX5_wish 13 = .ok (.iload_n 3, 1) := by decide +kernel
theorem dX5_wish_14 : decode cX5_wish 14 = .ok (.invokestatic 124, 3) := by decide +kernel
theorem dX5_wish_17 : decode cX5_wish 17 = .ok (.iload 4, 2) := by decide +kernel
theorem dX5_wish_19 : decode cX5_wish 19 = .ok (.iconst 0, 1) := by decide +kernel
theorem dX5_wish_20 : decode cX5_wish 20 = .ok (.bipush 99, 2) := by decide +kernel
theorem dX5_wish_22 : decode cX5_wish 22 = .ok (.invokestatic 53, 3) := by decide +kernel
theorem dX5_wish_25 : decode cX5_wish 25 = .ok (.aload_n 0, 1) := by decide +kernel
theorem dX5_wish_26 : decode cX5_wish 26 = .ok (.getfield 37, 3) := by decide +kernel
theorem dX5_wish_29 : decode cX5_wish 29 = .ok (.getfield 151, 3) := by decide +kernel
theorem dX5_wish_32 : decode cX5_wish 32 = .ok (.bipush 20, 2) := by decide +kernel
theorem dX5_wish_34 : decode cX5_wish 34 = .ok (.if_icmp .lt 13, 3) := by decide +kernel
theorem dX5_wish_37 : decode cX5_wish 37 = .ok (.new 57, 3) := by decide +kernel
theorem dX5_wish_40 : decode cX5_wish 40 = .ok (.dup, 1) := by decide +kernel
theorem dX5_wish_41 : decode cX5_wish 41 = .ok (.ldc 152, 2) := by decide +kernel
theorem dX5_wish_43 : decode cX5_wish 43 = .ok (.invokespecial 61, 3) := by decide +kernel
theorem dX5_wish_46 : decode cX5_wish 46 = .ok (.athrow, 1) := by decide +kernel
theorem dX5_wish_47 : decode cX5_wish 47 = .ok (.aload_n 0, 1) := by decide +kernel
theorem dX5_wish_48 : decode cX5_wish 48 = .ok (.getfield 37, 3) := by decide +kernel
theorem dX5_wish_51 : decode cX5_wish 51 = .ok (.iload_n 1, 1) := by decide +kernel
theorem dX5_wish_52 : decode cX5_wish 52 = .ok (.iload_n 2, 1) := by decide +kernel
theorem dX5_wish_53 : decode cX5_wish 53 = .ok (.iload_n 3, 1) := by decide +kernel
theorem dX5_wish_54 : decode cX5_wish 54 = .ok (.iload 4, 2) := by decide +kernel
theorem dX5_wish_56 : decode cX5_wish 56 = .ok (.invokevirtual 154, 3) := by decide +kernel
theorem dX5_wish_59 : decode cX5_wish 59 = .ok (.ireturn, 1) := by decide +kernel
set_option maxRecDepth 20000 in
theorem ggX5_differing_X5_requireDay : GoodIn wsX5_differing wsX5_requireDay := goodIn_ca (goodIn_r _ [11, 12, 13, 10, 14, 15, 16] (by decide +kernel) (by decide +kernel)) (goodIn_sub (fun _ h => List.mem_cons_of_mem _ (List.mem_append_right _ h)) (by decide +kernel))
set_option maxRecDepth 20000 in
theorem gX5_differing_X5_requireDay : GoodIn wsX5_differing (va_wsS RX5 104 yX5_requireDay wsX5_requireDay) := goodIn_app (goodIn_of _ (by decide +kernel)) ggX5_differing_X5_requireDay
set_option maxRecDepth 20000 in
theorem ggX5_differing_X3_sortFor : GoodIn wsX5_differing wsX3_sortFor := goodIn_r _ [21, 22, 23, 24, 25, 26, 27, 28, 29, 30, 31, 32, 33, 34, 35, 36, 37, 20, 38, 39, 40, 41, 42, 43, 44, 45, 46, 47, 48, 49, 50, 51, 52, 53, 54, 55, 56, 57, 58, 59, 60, 61, 62, 63, 116, 117, 118, 109, 110, 111, 112, 113, 114, 115, 119, 120] (by decide +kernel) (by decide +kernel)
set_option maxRecDepth 20000 in
theorem gX5_differing_X3_sortFor : GoodIn wsX5_differing (wsV RX5 111 RX3 yX3_sortFor wsX3_sortFor) := goodIn_app (goodIn_of _ (by decide +kernel)) ggX5_differing_X3_sortFor
set_option maxRecDepth 20000 in
theorem ggX5_differing_X3_isThing : GoodIn wsX5_differing wsX3_isThing := goodIn_r _ [67, 24, 116, 117, 118] (by decide +kernel) (by decide +kernel)
set_option maxRecDepth 20000 in
theorem gX5_differing_X3_isThing : GoodIn wsX5_differing (wsV RX5 114 RX3 yX3_isThing wsX3_isThing) := goodIn_app (goodIn_of _ (by decide +kernel)) ggX5_differing_X3_isThing
set_option maxRecDepth 20000 in
theorem ggX5_differing_X4_isMissedBy : GoodIn wsX5_differing wsX4_isMissedBy := goodIn_r _ [72, 73, 74, 75, 76, 77, 78, 79, 20, 80, 22, 23, 24, 81, 82, 83, 84, 85, 86, 87, 88, 89, 90, 91, 92, 93, 94, 25, 95, 96, 104, 105, 106, 107, 108, 116, 117, 118, 109, 110, 111, 112, 113, 114, 115, 119, 120] (by decide +kernel) (by decide +kernel)
set_option maxRecDepth 20000 in
theorem gX5_differing_X4_isMissedBy : GoodIn wsX5_differing (wsV RX5 162 RX4 yX4_isMissedBy wsX4_isMissedBy) := goodIn_app (goodIn_of _ (by decide +kernel)) ggX5_differing_X4_isMissedBy
theorem dX5_differing_0 : decode cX5_differing 0 = .ok (.iload_n 1, 1) := by decide +kernel
theorem dX5_differing_1 : decode cX5_differing 1 = .ok (.ifCond .lt 14, 3) := by decide +kernel
theorem dX5_differing_4 : decode cX5_differing 4 = .ok (.iload_n 1, 1) := by decide +kernel
theorem dX5_differing_5 : decode cX5_differing 5 = .ok (.aload_n 0, 1) := by decide +kernel
theorem dX5_differing_6 : decode cX5_differing 6 = .ok (.getfield 37, 3) := by decide +kernel
theorem dX5_differing_9 : decode cX5_differing 9 = .ok (.getfield 151, 3) := by decide +kernel
theorem dX5_differing_12 : decode cX5_differing 12 = .ok (.if_icmp .lt 13, 3) := by decide +kernel
theorem dX5_differing_15 : decode cX5_differing 15 = .ok (.new 157, 3) := by decide +kernel
theorem dX5_differing_18 : decode cX5_differing 18 = .ok (.dup, 1) := by decide +kernel
theorem dX5_differing_19 : decode cX5_differing 19 = .ok (.ldc 159, 2) := by decide +kernel
theorem dX5_differing_21 : decode cX5_differing 21 = .ok (.invokespecial 161, 3) := by decide +kernel
theorem dX5_differing_24 : decode cX5_differing 24 = .ok (.athrow, 1) := by decide +kernel
theorem dX5_differing_25 : decode cX5_differing 25 = .ok (.iload_n 2, 1) := by decide +kernel
theorem dX5_differing_26 : decode cX5_differing 26 = .ok (.invokestatic 104, 3) := by decide +kernel
theorem dX5_differing_29 : decode cX5_differing 29 = .ok (.aload_n 0, 1) := by decide +kernel
theorem dX5_differing_30 : decode cX5_differing 30 = .ok (.getfield 46, 3) := by decide +kernel
theorem dX5_differing_33 : decode cX5_differing 33 = .ok (.iload_n 2, 1) := by decide +kernel
theorem dX5_differing_34 : decode cX5_differing 34 = .ok (.invokevirtual 111, 3) := by decide +kernel
theorem dX5_differing_37 : decode cX5_differing 37 = .ok (.iconst 0, 1) := by decide +kernel
theorem dX5_differing_38 : decode cX5_differing 38 = .ok (.istore_n 3, 1) := by decide +kernel
theorem dX5_differing_39 : decode cX5_differing 39 = .ok (.iconst 0, 1) := by decide +kernel
theorem dX5_differing_40 : decode cX5_differing 40 = .ok (.istore 4, 2) := by decide +kernel
theorem dX5_differing_42 : decode cX5_differing 42 = .ok (.iload 4, 2) := by decide +kernel
theorem dX5_differing_44 : decode cX5_differing 44 = .ok (.aload_n 0, 1) := by decide +kernel
theorem dX5_differing_45 : decode cX5_differing 45 = .ok (.getfield 23, 3) := by decide +kernel
theorem dX5_differing_48 : decode cX5_differing 48 = .ok (.getfield 72, 3) := by decide +kernel
theorem dX5_differing_51 : decode cX5_differing 51 = .ok (.if_icmp .ge 41, 3) := by decide +kernel
theorem dX5_differing_54 : decode cX5_differing 54 = .ok (.aload_n 0, 1) := by decide +kernel
theorem dX5_differing_55 : decode cX5_differing 55 = .ok (.getfield 46, 3) := by decide +kernel
theorem dX5_differing_58 : decode cX5_differing 58 = .ok (.iload 4, 2) := by decide +kernel
theorem dX5_differing_60 : decode cX5_differing 60 = .ok (.invokevirtual 114, 3) := by decide +kernel
theorem dX5_differing_63 : decode cX5_differing 63 = .ok (.ifCond .eq 23, 3) := by decide +kernel
theorem dX5_differing_66 : decode cX5_differing 66 = .ok (.aload_n 0, 1) := by decide +kernel
theorem dX5_differing_67 : decode cX5_differing 67 = .ok (.getfield 37, 3) := by decide +kernel
theorem dX5_differing_70 : decode cX5_differing 70 = .ok (.iload 4, 2) := by decide +kernel
theorem dX5_differing_72 : decode cX5_differing 72 = .ok (.iload_n 1, 1) := by decide +kernel
theorem dX5_differing_73 : decode cX5_differing 73 = .ok (.aload_n 0, 1) := by decide +kernel
theorem dX5_differing_74 : decode cX5_differing 74 = .ok (.getfield 46, 3) := by decide +kernel
theorem dX5_differing_77 : decode cX5_differing 77 = .ok (.invokevirtual 162, 3) := by decide +kernel
theorem dX5_differing_80 : decode cX5_differing 80 = .ok (.ifCond .eq 6, 3) := by decide +kernel
theorem dX5_differing_83 : decode cX5_differing 83 = .ok (.iinc 3 1, 3) := by decide +kernel
theorem dX5_differing_86 : decode cX5_differing 86 = .ok (.iinc 4 1, 3) := by decide +kernel
theorem dX5_differing_89 : decode cX5_differing 89 = .ok (.goto (-47), 3) := by decide +kernel
theorem dX5_differing_92 : decode cX5_differing 92 = .ok (.iload_n 3, 1) := by decide +kernel
theorem dX5_differing_93 : decode cX5_differing 93 = .ok (.ireturn, 1) := by decide +kernel
set_option maxRecDepth 20000 in
theorem ggX5_changed_X5_requireAttribute : GoodIn wsX5_changed wsX5_requireAttribute := goodIn_ca (goodIn_r _ [8, 9, 10, 7, 11, 12, 13] (by decide +kernel) (by decide +kernel)) (goodIn_sub (fun _ h => List.mem_cons_of_mem _ (List.mem_append_right _ h)) (by decide +kernel))
set_option maxRecDepth 20000 in
theorem gX5_changed_X5_requireAttribute : GoodIn wsX5_changed (va_wsS RX5 124 yX5_requireAttribute wsX5_requireAttribute) := goodIn_app (goodIn_of _ (by decide +kernel)) ggX5_changed_X5_requireAttribute
set_option maxRecDepth 20000 in
theorem ggX5_changed_X5_requireDay : GoodIn wsX5_changed wsX5_requireDay := goodIn_ca (goodIn_r _ [16, 9, 10, 7, 11, 12, 13] (by decide +kernel) (by decide +kernel)) (goodIn_sub (fun _ h => List.mem_cons_of_mem _ (List.mem_append_right _ h)) (by decide +kernel))
set_option maxRecDepth 20000 in
theorem gX5_changed_X5_requireDay : GoodIn wsX5_changed (va_wsS RX5 104 yX5_requireDay wsX5_requireDay) := goodIn_app (goodIn_of _ (by decide +kernel)) ggX5_changed_X5_requireDay
set_option maxRecDepth 20000 in
theorem ggX5_changed_X3_sortFor : GoodIn wsX5_changed wsX3_sortFor := goodIn_r _ [21, 22, 23, 24, 25, 26, 27, 28, 29, 30, 31, 32, 33, 34, 35, 36, 37, 20, 38, 39, 40, 41, 42, 43, 44, 45, 46, 47, 48, 49, 50, 51, 52, 53, 54, 55, 56, 57, 58, 59, 60, 61, 62, 63, 98, 99, 100, 91, 92, 93, 94, 95, 96, 97, 101, 102] (by decide +kernel) (by decide +kernel)
set_option maxRecDepth 20000 in
theorem gX5_changed_X3_sortFor : GoodIn wsX5_changed (wsV RX5 111 RX3 yX3_sortFor wsX3_sortFor) := goodIn_app (goodIn_of _ (by decide +kernel)) ggX5_changed_X3_sortFor
set_option maxRecDepth 20000 in
theorem ggX5_changed_X5_hasAnotherValue : GoodIn wsX5_changed wsX5_hasAnotherValue := goodIn_r _ [67, 1, 68, 2, 69, 70, 71, 20, 72, 22, 23, 73, 74, 75, 76, 77, 24, 78, 79, 80, 81, 25, 82, 83, 84, 85, 86, 87, 88, 89, 90, 98, 99, 100, 91, 92, 93, 94, 95, 96, 97, 101, 102] (by decide +kernel) (by decide +kernel)
set_option maxRecDepth 20000 in
theorem gX5_changed_X5_hasAnotherValue : GoodIn wsX5_changed (wsV RX5 166 RX5 yX5_hasAnotherValue wsX5_hasAnotherValue) := goodIn_app (goodIn_of _ (by decide +kernel)) ggX5_changed_X5_hasAnotherValue
theorem dX5_changed_0 : decode cX5_changed 0 = .ok (.iload_n 1, 1) := by decide +kernel
theorem dX5_changed_1 : decode cX5_changed 1 = .ok (.invokestatic 124, 3) := by decide +kernel
theorem dX5_changed_4 : decode cX5_changed 4 = .ok (.iload_n 2, 1) := by decide +kernel
theorem dX5_changed_5 : decode cX5_changed 5 = .ok (.invokestatic 104, 3) := by decide +kernel
theorem dX5_changed_8 : decode cX5_changed 8 = .ok (.iload_n 3, 1) := by decide +kernel
theorem dX5_changed_9 : decode cX5_changed 9 = .ok (.invokestatic 104, 3) := by decide +kernel
theorem dX5_changed_12 : decode cX5_changed 12 = .ok (.aload_n 0, 1) := by decide +kernel
theorem dX5_changed_13 : decode cX5_changed 13 = .ok (.getfield 46, 3) := by decide +kernel
theorem dX5_changed_16 : decode cX5_changed 16 = .ok (.iload_n 2, 1) := by decide +kernel
theorem dX5_changed_17 : decode cX5_changed 17 = .ok (.invokevirtual 111, 3) := by decide +kernel
theorem dX5_changed_20 : decode cX5_changed 20 = .ok (.aload_n 0, 1) := by decide +kernel
theorem dX5_changed_21 : decode cX5_changed 21 = .ok (.getfield 50, 3) := by decide +kernel
theorem dX5_changed_24 : decode cX5_changed 24 = .ok (.iload_n 3, 1) := by decide +kernel
theorem dX5_changed_25 : decode cX5_changed 25 = .ok (.invokevirtual 111, 3) := by decide +kernel
theorem dX5_changed_28 : decode cX5_changed 28 = .ok (.iconst 0, 1) := by decide +kernel
theorem dX5_changed_29 : decode cX5_changed 29 = .ok (.istore 4, 2) := by decide +kernel
theorem dX5_changed_31 : decode cX5_changed 31 = .ok (.iconst 0, 1) := by decide +kernel
theorem dX5_changed_32 : decode cX5_changed 32 = .ok (.istore 5, 2) := by decide +kernel
theorem dX5_changed_34 : decode cX5_changed 34 = .ok (.iload 5, 2) := by decide +kernel
theorem dX5_changed_36 : decode cX5_changed 36 = .ok (.aload_n 0, 1) := by decide +kernel
theorem dX5_changed_37 : decode cX5_changed 37 = .ok (.getfield 23, 3) := by decide +kernel
theorem dX5_changed_40 : decode cX5_changed 40 = .ok (.getfield 72, 3) := by decide +kernel
theorem dX5_changed_43 : decode cX5_changed 43 = .ok (.if_icmp .ge 22, 3) := by decide +kernel
theorem dX5_changed_46 : decode cX5_changed 46 = .ok (.aload_n 0, 1) := by decide +kernel
theorem dX5_changed_47 : decode cX5_changed 47 = .ok (.iload 5, 2) := by decide +kernel
theorem dX5_changed_49 : decode cX5_changed 49 = .ok (.iload_n 1, 1) := by decide +kernel
theorem dX5_changed_50 : decode cX5_changed 50 = .ok (.invokevirtual 166, 3) := by decide +kernel
theorem dX5_changed_53 : decode cX5_changed 53 = .ok (.ifCond .eq 6, 3) := by decide +kernel
theorem dX5_changed_56 : decode cX5_changed 56 = .ok (.iinc 4 1, 3) := by decide +kernel
theorem dX5_changed_59 : decode cX5_changed 59 = .ok (.iinc 5 1, 3) := by decide +kernel
theorem dX5_changed_62 : decode cX5_changed 62 = .ok (.goto (-28), 3) := by decide +kernel
theorem dX5_changed_65 : decode cX5_changed 65 = .ok (.iload 4, 2) := by decide +kernel
theorem dX5_changed_67 : decode cX5_changed 67 = .ok (.ireturn, 1) := by decide +kernel
set_option maxRecDepth 20000 in
theorem ggX5_hasAnotherValue_X3_attributeOf : GoodIn wsX5_hasAnotherValue wsX3_attributeOf := goodIn_r _ [8, 9, 10, 11, 12, 13, 14, 7, 15, 16, 17, 18, 19, 20, 21, 22, 23, 31, 32, 33, 34, 35, 36, 37, 38, 39, 40, 41, 42] (by decide +kernel) (by decide +kernel)
set_option maxRecDepth 20000 in
theorem gX5_hasAnotherValue_X3_attributeOf : GoodIn wsX5_hasAnotherValue (wsV RX5 127 RX3 yX3_attributeOf wsX3_attributeOf) := goodIn_app (goodIn_of _ (by decide +kernel)) ggX5_hasAnotherValue_X3_attributeOf
theorem dX5_hasAnotherValue_0 : decode cX5_hasAnotherValue 0 = .ok (.aload_n 0, 1) := by decide +kernel
theorem dX5_hasAnotherValue_1 : decode cX5_hasAnotherValue 1 = .ok (.getfield 46, 3) := by decide +kernel
theorem dX5_hasAnotherValue_4 : decode cX5_hasAnotherValue 4 = .ok (.getfield 121, 3) := by decide +kernel
theorem dX5_hasAnotherValue_7 : decode cX5_hasAnotherValue 7 = .ok (.iload_n 1, 1) := by decide +kernel
theorem dX5_hasAnotherValue_8 : decode cX5_hasAnotherValue 8 = .ok (.iaload, 1) := by decide +kernel
theorem dX5_hasAnotherValue_9 : decode cX5_hasAnotherValue 9 = .ok (.istore_n 3, 1) := by decide +kernel
theorem dX5_hasAnotherValue_10 : decode cX5_hasAnotherValue 10 = .ok (.aload_n 0, 1) := by decide +kernel
theorem dX5_hasAnotherValue_11 : decode cX5_hasAnotherValue 11 = .ok (.getfield 50, 3) := by decide +kernel
theorem dX5_hasAnotherValue_14 : decode cX5_hasAnotherValue 14 = .ok (.getfield 121, 3) := by decide +kernel
theorem dX5_hasAnotherValue_17 : decode cX5_hasAnotherValue 17 = .ok (.iload_n 1, 1) := by decide +kernel
theorem dX5_hasAnotherValue_18 : decode cX5_hasAnotherValue 18 = .ok (.iaload, 1) := by decide +kernel
theorem dX5_hasAnotherValue_19 : decode cX5_hasAnotherValue 19 = .ok (.istore 4, 2) := by decide +kernel
theorem dX5_hasAnotherValue_21 : decode cX5_hasAnotherValue 21 = .ok (.iload_n 3, 1) := by decide +kernel
theorem dX5_hasAnotherValue_22 : decode cX5_hasAnotherValue 22 = .ok (.iconst (-1), 1) := by decide +kernel
theorem dX5_hasAnotherValue_23 : decode cX5_hasAnotherValue 23 = .ok (.if_icmp .eq 35, 3) := by decide +kernel
theorem dX5_hasAnotherValue_26 : decode cX5_hasAnotherValue 26 = .ok (.iload 4, 2) := by decide +kernel
theorem dX5_hasAnotherValue_28 : decode cX5_hasAnotherValue 28 = .ok (.iconst (-1), 1) := by decide +kernel
theorem dX5_hasAnotherValue_29 : decode cX5_hasAnotherValue 29 = .ok (.if_icmp .eq 29, 3) := by decide +kernel
theorem dX5_hasAnotherValue_32 : decode cX5_hasAnotherValue 32 = .ok (.aload_n 0, 1) := by decide +kernel
theorem dX5_hasAnotherValue_33 : decode cX5_hasAnotherValue 33 = .ok (.getfield 46, 3) := by decide +kernel
theorem dX5_hasAnotherValue_36 : decode cX5_hasAnotherValue 36 = .ok (.iload_n 3, 1) := by decide +kernel
theorem dX5_hasAnotherValue_37 : decode cX5_hasAnotherValue 37 = .ok (.iload_n 2, 1) := by decide +kernel
theorem dX5_hasAnotherValue_38 : decode cX5_hasAnotherValue 38 = .ok (.invokevirtual 127, 3) := by decide +kernel
theorem dX5_hasAnotherValue_41 : decode cX5_hasAnotherValue 41 = .ok (.aload_n 0, 1) := by decide +kernel
theorem dX5_hasAnotherValue_42 : decode cX5_hasAnotherValue 42 = .ok (.getfield 50, 3) := by decide +kernel
theorem dX5_hasAnotherValue_45 : decode cX5_hasAnotherValue 45 = .ok (.iload 4, 2) := by decide +kernel
theorem dX5_hasAnotherValue_47 : decode cX5_hasAnotherValue 47 = .ok (.iload_n 2, 1) := by decide +kernel
theorem dX5_hasAnotherValue_48 : decode cX5_hasAnotherValue 48 = .ok (.invokevirtual 127, 3) := by decide +kernel
theorem dX5_hasAnotherValue_51 : decode cX5_hasAnotherValue 51 = .ok (.if_icmp .eq 7, 3) := by decide +kernel
theorem dX5_hasAnotherValue_54 : decode cX5_hasAnotherValue 54 = .ok (.iconst 1, 1) := by decide +kernel
theorem dX5_hasAnotherValue_55 : decode cX5_hasAnotherValue 55 = .ok (.goto 4, 3) := by decide +kernel
theorem dX5_hasAnotherValue_58 : decode cX5_hasAnotherValue 58 = .ok (.iconst 0, 1) := by decide +kernel
theorem dX5_hasAnotherValue_59 : decode cX5_hasAnotherValue 59 = .ok (.ireturn, 1) := by decide +kernel
theorem dX5_requireRange_0 : decode cX5_requireRange 0 = .ok (.iload_n 0, 1) := by decide +kernel
theorem dX5_requireRange_1 : decode cX5_requireRange 1 = .ok (.iload_n 1, 1) := by decide +kernel
theorem dX5_requireRange_2 : decode cX5_requireRange 2 = .ok (.if_icmp .lt 8, 3) := by decide +kernel
theorem dX5_requireRange_5 : decode cX5_requireRange 5 = .ok (.iload_n 0, 1) := by decide +kernel
theorem dX5_requireRange_6 : decode cX5_requireRange 6 = .ok (.iload_n 2, 1) := by decide +kernel
theorem dX5_requireRange_7 : decode cX5_requireRange 7 = .ok (.if_icmp .le 13, 3) := by decide +kernel
theorem dX5_requireRange_10 : decode cX5_requireRange 10 = .ok (.new 169, 3) := by decide +kernel
theorem dX5_requireRange_13 : decode cX5_requireRange 13 = .ok (.dup, 1) := by decide +kernel
theorem dX5_requireRange_14 : decode cX5_requireRange 14 = .ok (.ldc 171, 2) := by decide +kernel
theorem dX5_requireRange_16 : decode cX5_requireRange 16 = .ok (.invokespecial 173, 3) := by decide +kernel
theorem dX5_requireRange_19 : decode cX5_requireRange 19 = .ok (.athrow, 1) := by decide +kernel
theorem dX5_requireRange_20 : decode cX5_requireRange 20 = .ok (.return_, 1) := by decide +kernel
set_option maxRecDepth 20000 in
theorem ggX5_requireDay_X5_requireRange : GoodIn wsX5_requireDay wsX5_requireRange := goodIn_ca (goodIn_r _ [4, 5, 6] (by decide +kernel) (by decide +kernel)) (goodIn_sub (fun _ h => List.mem_cons_of_mem _ (List.mem_append_right _ h)) (by decide +kernel))
set_option maxRecDepth 20000 in
theorem gX5_requireDay_X5_requireRange : GoodIn wsX5_requireDay (va_wsS RX5 53 yX5_requireRange wsX5_requireRange) := goodIn_app (goodIn_of _ (by decide +kernel)) ggX5_requireDay_X5_requireRange
theorem dX5_requireDay_0 : decode cX5_requireDay 0 = .ok (.iload_n 0, 1) := by decide +kernel
theorem dX5_requireDay_1 : decode cX5_requireDay 1 = .ok (.iconst 0, 1) := by decide +kernel
theorem dX5_requireDay_2 : decode cX5_requireDay 2 = .ok (.sipush 9999, 3) := by decide +kernel
theorem dX5_requireDay_5 : decode cX5_requireDay 5 = .ok (.invokestatic 53, 3) := by decide +kernel
theorem dX5_requireDay_8 : decode cX5_requireDay 8 = .ok (.return_, 1) := by decide +kernel
set_option maxRecDepth 20000 in
theorem ggX5_requireAttribute_X5_requireRange : GoodIn wsX5_requireAttribute wsX5_requireRange := goodIn_ca (goodIn_r _ [4, 5, 6] (by decide +kernel) (by decide +kernel)) (goodIn_sub (fun _ h => List.mem_cons_of_mem _ (List.mem_append_right _ h)) (by decide +kernel))
set_option maxRecDepth 20000 in
theorem gX5_requireAttribute_X5_requireRange : GoodIn wsX5_requireAttribute (va_wsS RX5 53 yX5_requireRange wsX5_requireRange) := goodIn_app (goodIn_of _ (by decide +kernel)) ggX5_requireAttribute_X5_requireRange
theorem dX5_requireAttribute_0 : decode cX5_requireAttribute 0 = .ok (.iload_n 0, 1) := by decide +kernel
theorem dX5_requireAttribute_1 : decode cX5_requireAttribute 1 = .ok (.iconst 0, 1) := by decide +kernel
theorem dX5_requireAttribute_2 : decode cX5_requireAttribute 2 = .ok (.iconst 1, 1) := by decide +kernel
theorem dX5_requireAttribute_3 : decode cX5_requireAttribute 3 = .ok (.invokestatic 53, 3) := by decide +kernel
theorem dX5_requireAttribute_6 : decode cX5_requireAttribute 6 = .ok (.return_, 1) := by decide +kernel
theorem dX5_requireUnlike_0 : decode cX5_requireUnlike 0 = .ok (.iload_n 0, 1) := by decide +kernel
theorem dX5_requireUnlike_1 : decode cX5_requireUnlike 1 = .ok (.iload_n 1, 1) := by decide +kernel
theorem dX5_requireUnlike_2 : decode cX5_requireUnlike 2 = .ok (.if_icmp .ne 13, 3) := by decide +kernel
theorem dX5_requireUnlike_5 : decode cX5_requireUnlike 5 = .ok (.new 169, 3) := by decide +kernel
theorem dX5_requireUnlike_8 : decode cX5_requireUnlike 8 = .ok (.dup, 1) := by decide +kernel
theorem dX5_requireUnlike_9 : decode cX5_requireUnlike 9 = .ok (.ldc 174, 2) := by decide +kernel
theorem dX5_requireUnlike_11 : decode cX5_requireUnlike 11 = .ok (.invokespecial 173, 3) := by decide +kernel
theorem dX5_requireUnlike_14 : decode cX5_requireUnlike 14 = .ok (.athrow, 1) := by decide +kernel
theorem dX5_requireUnlike_15 : decode cX5_requireUnlike 15 = .ok (.return_, 1) := by decide +kernel
theorem dX5_requireFind_0 : decode cX5_requireFind 0 = .ok (.iload_n 1, 1) := by decide +kernel
theorem dX5_requireFind_1 : decode cX5_requireFind 1 = .ok (.ifCond .lt 14, 3) := by decide +kernel
theorem dX5_requireFind_4 : decode cX5_requireFind 4 = .ok (.iload_n 1, 1) := by decide +kernel
theorem dX5_requireFind_5 : decode cX5_requireFind 5 = .ok (.aload_n 0, 1) := by decide +kernel
theorem dX5_requireFind_6 : decode cX5_requireFind 6 = .ok (.getfield 23, 3) := by decide +kernel
theorem dX5_requireFind_9 : decode cX5_requireFind 9 = .ok (.getfield 72, 3) := by decide +kernel
theorem dX5_requireFind_12 : decode cX5_requireFind 12 = .ok (.if_icmp .lt 13, 3) := by decide +kernel
theorem dX5_requireFind_15 : decode cX5_requireFind 15 = .ok (.new 157, 3) := by decide +kernel
theorem dX5_requireFind_18 : decode cX5_requireFind 18 = .ok (.dup, 1) := by decide +kernel
theorem dX5_requireFind_19 : decode cX5_requireFind 19 = .ok (.ldc 176, 2) := by decide +kernel
theorem dX5_requireFind_21 : decode cX5_requireFind 21 = .ok (.invokespecial 161, 3) := by decide +kernel
theorem dX5_requireFind_24 : decode cX5_requireFind 24 = .ok (.athrow, 1) := by decide +kernel
theorem dX5_requireFind_25 : decode cX5_requireFind 25 = .ok (.return_, 1) := by decide +kernel
theorem dX5_requireCounting_0 : decode cX5_requireCounting 0 = .ok (.aload_n 0, 1) := by decide +kernel
theorem dX5_requireCounting_1 : decode cX5_requireCounting 1 = .ok (.getfield 46, 3) := by decide +kernel
theorem dX5_requireCounting_4 : decode cX5_requireCounting 4 = .ok (.getfield 121, 3) := by decide +kernel
theorem dX5_requireCounting_7 : decode cX5_requireCounting 7 = .ok (.iload_n 1, 1) := by decide +kernel
theorem dX5_requireCounting_8 : decode cX5_requireCounting 8 = .ok (.iaload, 1) := by decide +kernel
theorem dX5_requireCounting_9 : decode cX5_requireCounting 9 = .ok (.iconst (-1), 1) := by decide +kernel
theorem dX5_requireCounting_10 : decode cX5_requireCounting 10 = .ok (.if_icmp .ne 13, 3) := by decide +kernel
theorem dX5_requireCounting_13 : decode cX5_requireCounting 13 = .ok (.new 178, 3) := by decide +kernel
theorem dX5_requireCounting_16 : decode cX5_requireCounting 16 = .ok (.dup, 1) := by decide +kernel
theorem dX5_requireCounting_17 : decode cX5_requireCounting 17 = .ok (.ldc 180, 2) := by decide +kernel
theorem dX5_requireCounting_19 : decode cX5_requireCounting 19 = .ok (.invokespecial 182, 3) := by decide +kernel
theorem dX5_requireCounting_22 : decode cX5_requireCounting 22 = .ok (.athrow, 1) := by decide +kernel
theorem dX5_requireCounting_23 : decode cX5_requireCounting 23 = .ok (.return_, 1) := by decide +kernel
theorem dX6_init_0 : decode cX6_init 0 = .ok (.aload_n 0, 1) := by decide +kernel
theorem dX6_init_1 : decode cX6_init 1 = .ok (.invokespecial 1, 3) := by decide +kernel
theorem dX6_init_4 : decode cX6_init 4 = .ok (.aload_n 0, 1) := by decide +kernel
theorem dX6_init_5 : decode cX6_init 5 = .ok (.iconst 4, 1) := by decide +kernel
theorem dX6_init_6 : decode cX6_init 6 = .ok (.newarray .int, 2) := by decide +kernel
theorem dX6_init_8 : decode cX6_init 8 = .ok (.putfield 7, 3) := by decide +kernel
theorem dX6_init_11 : decode cX6_init 11 = .ok (.aload_n 0, 1) := by decide +kernel
theorem dX6_init_12 : decode cX6_init 12 = .ok (.iconst 4, 1) := by decide +kernel
theorem dX6_init_13 : decode cX6_init 13 = .ok (.newarray .int, 2) := by decide +kernel
theorem dX6_init_15 : decode cX6_init 15 = .ok (.putfield 13, 3) := by decide +kernel
theorem dX6_init_18 : decode cX6_init 18 = .ok (.aload_n 0, 1) := by decide +kernel
theorem dX6_init_19 : decode cX6_init 19 = .ok (.bipush 60, 2) := by decide +kernel
theorem dX6_init_21 : decode cX6_init 21 = .ok (.newarray .int, 2) := by decide +kernel
theorem dX6_init_23 : decode cX6_init 23 = .ok (.putfield 16, 3) := by decide +kernel
theorem dX6_init_26 : decode cX6_init 26 = .ok (.aload_n 0, 1) := by decide +kernel
theorem dX6_init_27 : decode cX6_init 27 = .ok (.bipush 60, 2) := by decide +kernel
theorem dX6_init_29 : decode cX6_init 29 = .ok (.newarray .int, 2) := by decide +kernel
theorem dX6_init_31 : decode cX6_init 31 = .ok (.putfield 19, 3) := by decide +kernel
theorem dX6_init_34 : decode cX6_init 34 = .ok (.aload_n 0, 1) := by decide +kernel
theorem dX6_init_35 : decode cX6_init 35 = .ok (.sipush 180, 3) := by decide +kernel
theorem dX6_init_38 : decode cX6_init 38 = .ok (.newarray .int, 2) := by decide +kernel
theorem dX6_init_40 : decode cX6_init 40 = .ok (.putfield 22, 3) := by decide +kernel
theorem dX6_init_43 : decode cX6_init 43 = .ok (.aload_n 0, 1) := by decide +kernel
theorem dX6_init_44 : decode cX6_init 44 = .ok (.bipush 120, 2) := by decide +kernel
theorem dX6_init_46 : decode cX6_init 46 = .ok (.newarray .int, 2) := by decide +kernel
theorem dX6_init_48 : decode cX6_init 48 = .ok (.putfield 25, 3) := by decide +kernel
theorem dX6_init_51 : decode cX6_init 51 = .ok (.aload_n 0, 1) := by decide +kernel
theorem dX6_init_52 : decode cX6_init 52 = .ok (.bipush 60, 2) := by decide +kernel
theorem dX6_init_54 : decode cX6_init 54 = .ok (.newarray .boolean, 2) := by decide +kernel
theorem dX6_init_56 : decode cX6_init 56 = .ok (.putfield 28, 3) := by decide +kernel
theorem dX6_init_59 : decode cX6_init 59 = .ok (.aload_n 0, 1) := by decide +kernel
theorem dX6_init_60 : decode cX6_init 60 = .ok (.sipush 3600, 3) := by decide +kernel
theorem dX6_init_63 : decode cX6_init 63 = .ok (.newarray .byte, 2) := by decide +kernel
theorem dX6_init_65 : decode cX6_init 65 = .ok (.putfield 32, 3) := by decide +kernel
theorem dX6_init_68 : decode cX6_init 68 = .ok (.aload_n 0, 1) := by decide +kernel
theorem dX6_init_69 : decode cX6_init 69 = .ok (.bipush 40, 2) := by decide +kernel
theorem dX6_init_71 : decode cX6_init 71 = .ok (.newarray .int, 2) := by decide +kernel
theorem dX6_init_73 : decode cX6_init 73 = .ok (.putfield 36, 3) := by decide +kernel
theorem dX6_init_76 : decode cX6_init 76 = .ok (.aload_n 0, 1) := by decide +kernel
theorem dX6_init_77 : decode cX6_init 77 = .ok (.bipush 40, 2) := by decide +kernel
theorem dX6_init_79 : decode cX6_init 79 = .ok (.newarray .int, 2) := by decide +kernel
theorem dX6_init_81 : decode cX6_init 81 = .ok (.putfield 39, 3) := by decide +kernel
theorem dX6_init_84 : decode cX6_init 84 = .ok (.aload_n 0, 1) := by decide +kernel
theorem dX6_init_85 : decode cX6_init 85 = .ok (.bipush 40, 2) := by decide +kernel
theorem dX6_init_87 : decode cX6_init 87 = .ok (.newarray .int, 2) := by decide +kernel
theorem dX6_init_89 : decode cX6_init 89 = .ok (.putfield 42, 3) := by decide +kernel
theorem dX6_init_92 : decode cX6_init 92 = .ok (.aload_n 0, 1) := by decide +kernel
theorem dX6_init_93 : decode cX6_init 93 = .ok (.bipush 20, 2) := by decide +kernel
theorem dX6_init_95 : decode cX6_init 95 = .ok (.newarray .int, 2) := by decide +kernel
theorem dX6_init_97 : decode cX6_init 97 = .ok (.putfield 45, 3) := by decide +kernel
theorem dX6_init_100 : decode cX6_init 100 = .ok (.aload_n 0, 1) := by decide +kernel
theorem dX6_init_101 : decode cX6_init 101 = .ok (.bipush 20, 2) := by decide +kernel
theorem dX6_init_103 : decode cX6_init 103 = .ok (.newarray .int, 2) := by decide +kernel
theorem dX6_init_105 : decode cX6_init 105 = .ok (.putfield 48, 3) := by decide +kernel
theorem dX6_init_108 : decode cX6_init 108 = .ok (.aload_n 0, 1) := by decide +kernel
theorem dX6_init_109 : decode cX6_init 109 = .ok (.bipush 20, 2) := by decide +kernel
theorem dX6_init_111 : decode cX6_init 111 = .ok (.newarray .int, 2) := by decide +kernel
theorem dX6_init_113 : decode cX6_init 113 = .ok (.putfield 51, 3) := by decide +kernel
theorem dX6_init_116 : decode cX6_init 116 = .ok (.aload_n 0, 1) := by decide +kernel
theorem dX6_init_117 : decode cX6_init 117 = .ok (.bipush 20, 2) := by decide +kernel
theorem dX6_init_119 : decode cX6_init 119 = .ok (.newarray .int, 2) := by decide +kernel
theorem dX6_init_121 : decode cX6_init 121 = .ok (.putfield 54, 3) := by decide +kernel
theorem dX6_init_124 : decode cX6_init 124 = .ok (.aload_n 0, 1) := by decide +kernel
theorem dX6_init_125 : decode cX6_init 125 = .ok (.bipush 60, 2) := by decide +kernel
theorem dX6_init_127 : decode cX6_init 127 = .ok (.newarray .int, 2) := by decide +kernel
theorem dX6_init_129 : decode cX6_init 129 = .ok (.putfield 57, 3) := by decide +kernel
theorem dX6_init_132 : decode cX6_init 132 = .ok (.aload_n 0, 1) := by decide +kernel
theorem dX6_init_133 : decode cX6_init 133 = .ok (.bipush 60, 2) := by decide +kernel
theorem dX6_init_135 : decode cX6_init 135 = .ok (.newarray .int, 2) := by decide +kernel
theorem dX6_init_137 : decode cX6_init 137 = .ok (.putfield 60, 3) := by decide +kernel
theorem dX6_init_140 : decode cX6_init 140 = .ok (.aload_n 0, 1) := by decide +kernel
theorem dX6_init_141 : decode cX6_init 141 = .ok (.bipush 60, 2) := by decide +kernel
theorem dX6_init_143 : decode cX6_init 143 = .ok (.newarray .boolean, 2) := by decide +kernel
theorem dX6_init_145 : decode cX6_init 145 = .ok (.putfield 63, 3) := by decide +kernel
theorem dX6_init_148 : decode cX6_init 148 = .ok (.iconst 0, 1) := by decide +kernel
theorem dX6_init_149 : decode cX6_init 149 = .ok (.istore_n 1, 1) := by decide +kernel
theorem dX6_init_150 : decode cX6_init 150 = .ok (.iload_n 1, 1) := by decide +kernel
theorem dX6_init_151 : decode cX6_init 151 = .ok (.iconst 4, 1) := by decide +kernel
theorem dX6_init_152 : decode cX6_init 152 = .ok (.if_icmp .ge 24, 3) := by decide +kernel
theorem dX6_init_155 : decode cX6_init 155 = .ok (.aload_n 0, 1) := by decide +kernel
theorem dX6_init_156 : decode cX6_init 156 = .ok (.getfield 7, 3) := by decide +kernel
theorem dX6_init_159 : decode cX6_init 159 = .ok (.iload_n 1, 1) := by decide +kernel
theorem dX6_init_160 : decode cX6_init 160 = .ok (.bipush 30, 2) := by decide +kernel
theorem dX6_init_162 : decode cX6_init 162 = .ok (.iastore, 1) := by decide +kernel
theorem dX6_init_163 : decode cX6_init 163 = .ok (.aload_n 0, 1) := by decide +kernel
theorem dX6_init_164 : decode cX6_init 164 = .ok (.getfield 13, 3) := by decide +kernel
theorem dX6_init_167 : decode cX6_init 167 = .ok (.iload_n 1, 1) := by decide +kernel
theorem dX6_init_168 : decode cX6_init 168 = .ok (.iload_n 1, 1) := by decide +kernel
theorem dX6_init_169 : decode cX6_init 169 = .ok (.iastore, 1) := by decide +kernel
theorem dX6_init_170 : decode cX6_init 170 = .ok (.iinc 1 1, 3) := by decide +kernel
theorem dX6_init_173 : decode cX6_init 173 = .ok (.goto (-23), 3) := by decide +kernel
theorem dX6_init_176 : decode cX6_init 176 = .ok (.return_, 1) := by decide +kernel
theorem dX6_thrown_0 : decode cX6_thrown 0 = .ok (.aload_n 0, 1) := by decide +kernel
theorem dX6_thrown_1 : decode cX6_thrown 1 = .ok (.getfield 66, 3) := by decide +kernel
theorem dX6_thrown_4 : decode cX6_thrown 4 = .ok (.ireturn, 1) := by decide +kernel
theorem dX6_refused_0 : decode cX6_refused 0 = .ok (.aload_n 0, 1) := by decide +kernel
theorem dX6_refused_1 : decode cX6_refused 1 = .ok (.iload_n 1, 1) := by decide +kernel
theorem dX6_refused_2 : decode cX6_refused 2 = .ok (.putfield 66, 3) := by decide +kernel
theorem dX6_refused_5 : decode cX6_refused 5 = .ok (.iload_n 1, 1) := by decide +kernel
theorem dX6_refused_6 : decode cX6_refused 6 = .ok (.ifCond .eq 7, 3) := by decide +kernel
theorem dX6_refused_9 : decode cX6_refused 9 = .ok (.iconst 1, 1) := by decide +kernel
theorem dX6_refused_10 : decode cX6_refused 10 = .ok (.goto 4, 3) := by decide +kernel
theorem dX6_refused_13 : decode cX6_refused 13 = .ok (.iconst 0, 1) := by decide +kernel
theorem dX6_refused_14 : decode cX6_refused 14 = .ok (.ireturn, 1) := by decide +kernel
theorem dX6_in_0 : decode cX6_in 0 = .ok (.iload_n 0, 1) := by decide +kernel
theorem dX6_in_1 : decode cX6_in 1 = .ok (.iload_n 1, 1) := by decide +kernel
theorem dX6_in_2 : decode cX6_in 2 = .ok (.if_icmp .lt 12, 3) := by decide +kernel
theorem dX6_in_5 : decode cX6_in 5 = .ok (.iload_n 0, 1) := by decide +kernel
theorem dX6_in_6 : decode cX6_in 6 = .ok (.iload_n 2, 1) := by decide +kernel
theorem dX6_in_7 : decode cX6_in 7 = .ok (.if_icmp .gt 7, 3) := by decide +kernel
theorem dX6_in_10 : decode cX6_in 10 = .ok (.iconst 1, 1) := by decide +kernel
theorem dX6_in_11 : decode cX6_in 11 = .ok (.goto 4, 3) := by decide +kernel
theorem dX6_in_14 : decode cX6_in 14 = .ok (.iconst 0, 1) := by decide +kernel
theorem dX6_in_15 : decode cX6_in 15 = .ok (.ireturn, 1) := by decide +kernel
set_option maxRecDepth 20000 in
theorem ggX6_isFind_X6_in : GoodIn wsX6_isFind wsX6_in := goodIn_r _ [5] (by decide +kernel) (by decide +kernel)
set_option maxRecDepth 20000 in
theorem gX6_isFind_X6_in : GoodIn wsX6_isFind (va_wsS RX6 73 yX6_in wsX6_in) := goodIn_app (goodIn_of _ (by decide +kernel)) ggX6_isFind_X6_in
theorem dX6_isFind_0 : decode cX6_isFind 0 = .ok (.iload_n 1, 1) := by decide +kernel
theorem dX6_isFind_1 : decode cX6_isFind 1 = .ok (.iconst 0, 1) := by decide +kernel
theorem dX6_isFind_2 : decode cX6_isFind 2 = .ok (.aload_n 0, 1) := by decide +kernel
theorem dX6_isFind_3 : decode cX6_isFind 3 = .ok (.getfield 70, 3) := by decide +kernel
theorem dX6_isFind_6 : decode cX6_isFind 6 = .ok (.iconst 1, 1) := by decide +kernel
theorem dX6_isFind_7 : decode cX6_isFind 7 = .ok (.isub, 1) := by decide +kernel
theorem dX6_isFind_8 : decode cX6_isFind 8 = .ok (.invokestatic 73, 3) := by decide +kernel
theorem dX6_isFind_11 : decode cX6_isFind 11 = .ok (.ireturn, 1) := by decide +kernel
set_option maxRecDepth 20000 in
theorem ggX6_isDay_X6_in : GoodIn wsX6_isDay wsX6_in := goodIn_r _ [4] (by decide +kernel) (by decide +kernel)
set_option maxRecDepth 20000 in
theorem gX6_isDay_X6_in : GoodIn wsX6_isDay (va_wsS RX6 73 yX6_in wsX6_in) := goodIn_app (goodIn_of _ (by decide +kernel)) ggX6_isDay_X6_in
theorem dX6_isDay_0 : decode cX6_isDay 0 = .ok (.iload_n 0, 1) := by decide +kernel
theorem dX6_isDay_1 : decode cX6_isDay 1 = .ok (.iconst 0, 1) := by decide +kernel
theorem dX6_isDay_2 : decode cX6_isDay 2 = .ok (.sipush 9999, 3) := by decide +kernel
theorem dX6_isDay_5 : decode cX6_isDay 5 = .ok (.invokestatic 73, 3) := by decide +kernel
theorem dX6_isDay_8 : decode cX6_isDay 8 = .ok (.ireturn, 1) := by decide +kernel
set_option maxRecDepth 20000 in
theorem ggX6_pass_X6_in : GoodIn wsX6_pass wsX6_in := goodIn_r _ [5] (by decide +kernel) (by decide +kernel)
set_option maxRecDepth 20000 in
theorem gX6_pass_X6_in : GoodIn wsX6_pass (va_wsS RX6 73 yX6_in wsX6_in) := goodIn_app (goodIn_of _ (by decide +kernel)) ggX6_pass_X6_in
set_option maxRecDepth 20000 in
theorem ggX6_pass_X6_refused : GoodIn wsX6_pass wsX6_refused := goodIn_r _ [9, 10, 11, 12, 13, 14, 15, 16, 17, 18, 19, 20, 21, 22, 23, 24, 25, 26, 27, 28, 29, 30, 31, 32, 33] (by decide +kernel) (by decide +kernel)
set_option maxRecDepth 20000 in
theorem gX6_pass_X6_refused : GoodIn wsX6_pass (wsV RX6 80 RX6 yX6_refused wsX6_refused) := goodIn_app (goodIn_of _ (by decide +kernel)) ggX6_pass_X6_refused
theorem dX6_pass_0 : decode cX6_pass 0 = .ok (.aload_n 0, 1) := by decide +kernel
theorem dX6_pass_1 : decode cX6_pass 1 = .ok (.iload_n 1, 1) := by decide +kernel
theorem dX6_pass_2 : decode cX6_pass 2 = .ok (.iconst 1, 1) := by decide +kernel
theorem dX6_pass_3 : decode cX6_pass 3 = .ok (.sipush 1000, 3) := by decide +kernel
theorem dX6_pass_6 : decode cX6_pass 6 = .ok (.invokestatic 73, 3) := by decide +kernel
theorem dX6_pass_9 : decode cX6_pass 9 = .ok (.ifCond .ne 7, 3) := by decide +kernel
theorem dX6_pass_12 : decode cX6_pass 12 = .ok (.iconst 1, 1) := by decide +kernel
theorem dX6_pass_13 : decode cX6_pass 13 = .ok (.goto 20, 3) := by decide +kernel
theorem dX6_pass_16 : decode cX6_pass 16 = .ok (.aload_n 0, 1) := by decide +kernel
theorem dX6_pass_17 : decode cX6_pass 17 = .ok (.getfield 77, 3) := by decide +kernel
theorem dX6_pass_20 : decode cX6_pass 20 = .ok (.iload_n 1, 1) := by decide +kernel
theorem dX6_pass_21 : decode cX6_pass 21 = .ok (.iadd, 1) := by decide +kernel
theorem dX6_pass_22 : decode cX6_pass 22 = .ok (.sipush 9999, 3) := by decide +kernel
theorem dX6_pass_25 : decode cX6_pass 25 = .ok (.if_icmp .le 7, 3) := by decide +kernel
theorem dX6_pass_28 : decode cX6_pass 28 = .ok (.iconst 2, 1) := by decide +kernel
theorem dX6_pass_29 : decode cX6_pass 29 = .ok (.goto 4, 3) := by decide +kernel
theorem dX6_pass_32 : decode cX6_pass 32 = .ok (.iconst 0, 1) := by decide +kernel
theorem dX6_pass_33 : decode cX6_pass 33 = .ok (.invokevirtual 80, 3) := by decide +kernel
theorem dX6_pass_36 : decode cX6_pass 36 = .ok (.ifCond .eq 5, 3) := by decide +kernel
theorem dX6_pass_39 : decode cX6_pass 39 = .ok (.iconst 0, 1) := by decide +kernel
theorem dX6_pass_40 : decode cX6_pass 40 = .ok (.ireturn, 1) := by decide +kernel
theorem dX6_pass_41 : decode cX6_pass 41 = .ok (.aload_n 0, 1) := by decide +kernel
theorem dX6_pass_42 : decode cX6_pass 42 = .ok (.dup, 1) := by decide +kernel
theorem dX6_pass_43 : decode cX6_pass 43 = .ok (.getfield 77, 3) := by decide +kernel
theorem dX6_pass_46 : decode cX6_pass 46 = .ok (.iload_n 1, 1) := by decide +kernel
theorem dX6_pass_47 : decode cX6_pass 47 = .ok (.iadd, 1) := by decide +kernel
theorem dX6_pass_48 : decode cX6_pass 48 = .ok (.putfield 77, 3) := by decide +kernel
theorem dX6_pass_51 : decode cX6_pass 51 = .ok (.aload_n 0, 1) := by decide +kernel
theorem dX6_pass_52 : decode cX6_pass 52 = .ok (.getfield 77, 3) := by decide +kernel
theorem dX6_pass_55 : decode cX6_pass 55 = .ok (.ireturn, 1) := by decide +kernel
theorem dX6_today_0 : decode cX6_today 0 = .ok (.aload_n 0, 1) := by decide +kernel
theorem dX6_today_1 : decode cX6_today 1 = .ok (.iconst 0, 1) := by decide +kernel
theorem dX6_today_2 : decode cX6_today 2 = .ok (.putfield 66, 3) := by decide +kernel
theorem dX6_today_5 : decode cX6_today 5 = .ok (.aload_n 0, 1) := by decide +kernel
theorem dX6_today_6 : decode cX6_today 6 = .ok (.getfield 77, 3) := by decide +kernel
theorem dX6_today_9 : decode cX6_today 9 = .ok (.ireturn, 1) := by decide +kernel
set_option maxRecDepth 20000 in
theorem ggX6_setTerm_X6_in : GoodIn wsX6_setTerm wsX6_in := goodIn_r _ [5] (by decide +kernel) (by decide +kernel)
set_option maxRecDepth 20000 in
theorem gX6_setTerm_X6_in : GoodIn wsX6_setTerm (va_wsS RX6 73 yX6_in wsX6_in) := goodIn_app (goodIn_of _ (by decide +kernel)) ggX6_setTerm_X6_in
set_option maxRecDepth 20000 in
theorem ggX6_setTerm_X6_refused : GoodIn wsX6_setTerm wsX6_refused := goodIn_r _ [9, 10, 11, 12, 13, 14, 15, 16, 17, 18, 19, 20, 21, 22, 23, 24, 25, 26, 27, 28, 29, 30, 31, 32, 33] (by decide +kernel) (by decide +kernel)
set_option maxRecDepth 20000 in
theorem gX6_setTerm_X6_refused : GoodIn wsX6_setTerm (wsV RX6 80 RX6 yX6_refused wsX6_refused) := goodIn_app (goodIn_of _ (by decide +kernel)) ggX6_setTerm_X6_refused
theorem dX6_setTerm_0 : decode cX6_setTerm 0 = .ok (.aload_n 0, 1) := by decide +kernel
theorem dX6_setTerm_1 : decode cX6_setTerm 1 = .ok (.iload_n 1, 1) := by decide +kernel
theorem dX6_setTerm_2 : decode cX6_setTerm 2 = .ok (.iconst 0, 1) := by decide +kernel
theorem dX6_setTerm_3 : decode cX6_setTerm 3 = .ok (.iconst 3, 1) := by decide +kernel
theorem dX6_setTerm_4 : decode cX6_setTerm 4 = .ok (.invokestatic 73, 3) := by decide +kernel
theorem dX6_setTerm_7 : decode cX6_setTerm 7 = .ok (.ifCond .eq 18, 3) := by decide +kernel
theorem dX6_setTerm_10 : decode cX6_setTerm 10 = .ok (.iload_n 2, 1) := by decide +kernel
theorem dX6_setTerm_11 : decode cX6_setTerm 11 = .ok (.iconst 1, 1) := by decide +kernel
theorem dX6_setTerm_12 : decode cX6_setTerm 12 = .ok (.sipush 999, 3) := by decide +kernel
theorem dX6_setTerm_15 : decode cX6_setTerm 15 = .ok (.invokestatic 73, 3) := by decide +kernel
theorem dX6_setTerm_18 : decode cX6_setTerm 18 = .ok (.ifCond .eq 7, 3) := by decide +kernel
theorem dX6_setTerm_21 : decode cX6_setTerm 21 = .ok (.iconst 0, 1) := by decide +kernel
theorem dX6_setTerm_22 : decode cX6_setTerm 22 = .ok (.goto 4, 3) := by decide +kernel
theorem dX6_setTerm_25 : decode cX6_setTerm 25 = .ok (.iconst 1, 1) := by decide +kernel
theorem dX6_setTerm_26 : decode cX6_setTerm 26 = .ok (.invokevirtual 80, 3) := by decide +kernel
theorem dX6_setTerm_29 : decode cX6_setTerm 29 = .ok (.ifCond .eq 5, 3) := by decide +kernel
theorem dX6_setTerm_32 : decode cX6_setTerm 32 = .ok (.iconst 0, 1) := by decide +kernel
theorem dX6_setTerm_33 : decode cX6_setTerm 33 = .ok (.ireturn, 1) := by decide +kernel
theorem dX6_setTerm_34 : decode cX6_setTerm 34 = .ok (.aload_n 0, 1) := by decide +kernel
theorem dX6_setTerm_35 : decode cX6_setTerm 35 = .ok (.getfield 7, 3) := by decide +kernel
theorem dX6_setTerm_38 : decode cX6_setTerm 38 = .ok (.iload_n 1, 1) := by decide +kernel
theorem dX6_setTerm_39 : decode cX6_setTerm 39 = .ok (.iaload, 1) := by decide +kernel
theorem dX6_setTerm_40 : decode cX6_setTerm 40 = .ok (.istore_n 3, 1) := by decide +kernel
theorem dX6_setTerm_41 : decode cX6_setTerm 41 = .ok (.aload_n 0, 1) := by decide +kernel
theorem dX6_setTerm_42 : decode cX6_setTerm 42 = .ok (.getfield 7, 3) := by decide +kernel
theorem dX6_setTerm_45 : decode cX6_setTerm 45 = .ok (.iload_n 1, 1) := by decide +kernel
theorem dX6_setTerm_46 : decode cX6_setTerm 46 = .ok (.iload_n 2, 1) := by decide +kernel
theorem dX6_setTerm_47 : decode cX6_setTerm 47 = .ok (.iastore, 1) := by decide +kernel
theorem dX6_setTerm_48 : decode cX6_setTerm 48 = .ok (.iload_n 3, 1) := by decide +kernel
theorem dX6_setTerm_49 : decode cX6_setTerm 49 = .ok (.ireturn, 1) := by decide +kernel
theorem dX6_rankOf_0 : decode cX6_rankOf 0 = .ok (.iconst 0, 1) := by decide +kernel
theorem dX6_rankOf_1 : decode cX6_rankOf 1 = .ok (.istore_n 2, 1) := by decide +kernel
theorem dX6_rankOf_2 : decode cX6_rankOf 2 = .ok (.aload_n 0, 1) := by decide +kernel
theorem dX6_rankOf_3 : decode cX6_rankOf 3 = .ok (.getfield 13, 3) := by decide +kernel
theorem dX6_rankOf_6 : decode cX6_rankOf 6 = .ok (.iload_n 2, 1) := by decide +kernel
theorem dX6_rankOf_7 : decode cX6_rankOf 7 = .ok (.iaload, 1) := by decide +kernel
theorem dX6_rankOf_8 : decode cX6_rankOf 8 = .ok (.iload_n 1, 1) := by decide +kernel
theorem dX6_rankOf_9 : decode cX6_rankOf 9 = .ok (.if_icmp .eq 9, 3) := by decide +kernel
theorem dX6_rankOf_12 : decode cX6_rankOf 12 = .ok (.iinc 2 1, 3) := by decide +kernel
theorem dX6_rankOf_15 : decode cX6_rankOf 15 = .ok (.goto (-13), 3) := by decide +kernel
theorem dX6_rankOf_18 : decode cX6_rankOf 18 = .ok (.iload_n 2, 1) := by decide +kernel
theorem dX6_rankOf_19 : decode cX6_rankOf 19 = .ok (.ireturn, 1) := by decide +kernel
set_option maxRecDepth 20000 in
theorem ggX6_putFirst_X6_in : GoodIn wsX6_putFirst wsX6_in := goodIn_r _ [5] (by decide +kernel) (by decide +kernel)
set_option maxRecDepth 20000 in
theorem gX6_putFirst_X6_in : GoodIn wsX6_putFirst (va_wsS RX6 73 yX6_in wsX6_in) := goodIn_app (goodIn_of _ (by decide +kernel)) ggX6_putFirst_X6_in
set_option maxRecDepth 20000 in
theorem ggX6_putFirst_X6_refused : GoodIn wsX6_putFirst wsX6_refused := goodIn_r _ [9, 10, 15, 16, 17, 18, 19, 20, 21, 22, 23, 24, 25, 26, 27, 28, 29, 30, 31, 32, 33, 34, 35, 36, 37] (by decide +kernel) (by decide +kernel)
set_option maxRecDepth 20000 in
theorem gX6_putFirst_X6_refused : GoodIn wsX6_putFirst (wsV RX6 80 RX6 yX6_refused wsX6_refused) := goodIn_app (goodIn_of _ (by decide +kernel)) ggX6_putFirst_X6_refused
set_option maxRecDepth 20000 in
theorem ggX6_putFirst_X6_rankOf : GoodIn wsX6_putFirst wsX6_rankOf := goodIn_r _ [14, 1, 15, 16, 17, 18, 19, 20, 21, 22, 23, 24, 25, 26, 27, 28, 29, 30, 31, 32, 33, 34, 35, 36, 37] (by decide +kernel) (by decide +kernel)
set_option maxRecDepth 20000 in
theorem gX6_putFirst_X6_rankOf : GoodIn wsX6_putFirst (wsV RX6 84 RX6 yX6_rankOf wsX6_rankOf) := goodIn_app (goodIn_of _ (by decide +kernel)) ggX6_putFirst_X6_rankOf
theorem dX6_putFirst_0 : decode cX6_putFirst 0 = .ok (.aload_n 0, 1) := by decide +kernel
theorem dX6_putFirst_1 : decode cX6_putFirst 1 = .ok (.iload_n 1, 1) := by decide +kernel
theorem dX6_putFirst_2 : decode cX6_putFirst 2 = .ok (.iconst 0, 1) := by decide +kernel
theorem dX6_putFirst_3 : decode cX6_putFirst 3 = .ok (.iconst 3, 1) := by decide +kernel
theorem dX6_putFirst_4 : decode cX6_putFirst 4 = .ok (.invokestatic 73, 3) := by decide +kernel
theorem dX6_putFirst_7 : decode cX6_putFirst 7 = .ok (.ifCond .eq 7, 3) := by decide +kernel
theorem dX6_putFirst_10 : decode cX6_putFirst 10 = .ok (.iconst 0, 1) := by decide +kernel
theorem dX6_putFirst_11 : decode cX6_putFirst 11 = .ok (.goto 4, 3) := by decide +kernel
theorem dX6_putFirst_14 : decode cX6_putFirst 14 = .ok (.iconst 1, 1) := by decide +kernel
theorem dX6_putFirst_15 : decode cX6_putFirst 15 = .ok (.invokevirtual 80, 3) := by decide +kernel
theorem dX6_putFirst_18 : decode cX6_putFirst 18 = .ok (.ifCond .eq 5, 3) := by decide +kernel
theorem dX6_putFirst_21 : decode cX6_putFirst 21 = .ok (.iconst 0, 1) := by decide +kernel
theorem dX6_putFirst_22 : decode cX6_putFirst 22 = .ok (.ireturn, 1) := by decide +kernel
theorem dX6_putFirst_23 : decode cX6_putFirst 23 = .ok (.aload_n 0, 1) := by decide +kernel
theorem dX6_putFirst_24 : decode cX6_putFirst 24 = .ok (.iload_n 1, 1) := by decide +kernel
theorem dX6_putFirst_25 : decode cX6_putFirst 25 = .ok (.invokevirtual 84, 3) := by decide +kernel
theorem dX6_putFirst_28 : decode cX6_putFirst 28 = .ok (.istore_n 2, 1) := by decide +kernel
theorem dX6_putFirst_29 : decode cX6_putFirst 29 = .ok (.iload_n 2, 1) := by decide +kernel
theorem dX6_putFirst_30 : decode cX6_putFirst 30 = .ok (.istore_n 3, 1) := by decide +kernel
theorem dX6_putFirst_31 : decode cX6_putFirst 31 = .ok (.iload_n 3, 1) := by decide +kernel
theorem dX6_putFirst_32 : decode cX6_putFirst 32 = .ok (.ifCond .le 23, 3) := by decide +kernel
theorem dX6_putFirst_35 : decode cX6_putFirst 35 = .ok (.aload_n 0, 1) := by decide +kernel
theorem dX6_putFirst_36 : decode cX6_putFirst 36 = .ok (.getfield 13, 3) := by decide +kernel
theorem dX6_putFirst_39 : decode cX6_putFirst 39 = .ok (.iload_n 3, 1) := by decide +kernel
theorem dX6_putFirst_40 : decode cX6_putFirst 40 = .ok (.aload_n 0, 1) := by decide +kernel
theorem dX6_putFirst_41 : decode cX6_putFirst 41 = .ok (.getfield 13, 3) := by decide +kernel
theorem dX6_putFirst_44 : decode cX6_putFirst 44 = .ok (.iload_n 3, 1) := by decide +kernel
theorem dX6_putFirst_45 : decode cX6_putFirst 45 = .ok (.iconst 1, 1) := by decide +kernel
theorem dX6_putFirst_46 : decode cX6_putFirst 46 = .ok (.isub, 1) := by decide +kernel
theorem dX6_putFirst_47 : decode cX6_putFirst 47 = .ok (.iaload, 1) := by decide +kernel
theorem dX6_putFirst_48 : decode cX6_putFirst 48 = .ok (.iastore, 1) := by decide +kernel
theorem dX6_putFirst_49 : decode cX6_putFirst 49 = .ok (.iinc 3 (-1), 3) := by decide +kernel
theorem dX6_putFirst_52 : decode cX6_putFirst 52 = .ok (.goto (-21), 3) := by decide +kernel
theorem dX6_putFirst_55 : decode cX6_putFirst 55 = .ok (.aload_n 0, 1) := by decide +kernel
theorem dX6_putFirst_56 : decode cX6_putFirst 56 = .ok (.getfield 13, 3) := by decide +kernel
theorem dX6_putFirst_59 : decode cX6_putFirst 59 = .ok (.iconst 0, 1) := by decide +kernel
theorem dX6_putFirst_60 : decode cX6_putFirst 60 = .ok (.iload_n 1, 1) := by decide +kernel
theorem dX6_putFirst_61 : decode cX6_putFirst 61 = .ok (.iastore, 1) := by decide +kernel
theorem dX6_putFirst_62 : decode cX6_putFirst 62 = .ok (.iload_n 2, 1) := by decide +kernel
theorem dX6_putFirst_63 : decode cX6_putFirst 63 = .ok (.ireturn, 1) := by decide +kernel
set_option maxRecDepth 20000 in
theorem ggX6_find_X6_in : GoodIn wsX6_find wsX6_in := goodIn_r _ [10] (by decide +kernel) (by decide +kernel)
set_option maxRecDepth 20000 in
theorem gX6_find_X6_in : GoodIn wsX6_find (va_wsS RX6 73 yX6_in wsX6_in) := goodIn_app (goodIn_of _ (by decide +kernel)) ggX6_find_X6_in
set_option maxRecDepth 20000 in
theorem ggX6_find_X6_refused : GoodIn wsX6_find wsX6_refused := goodIn_r _ [14, 15, 16, 17, 18, 19, 20, 21, 22, 23, 24, 25, 26, 27, 28, 29, 30, 31, 32, 33, 34, 35, 36, 37, 38] (by decide +kernel) (by decide +kernel)
set_option maxRecDepth 20000 in
theorem gX6_find_X6_refused : GoodIn wsX6_find (wsV RX6 80 RX6 yX6_refused wsX6_refused) := goodIn_app (goodIn_of _ (by decide +kernel)) ggX6_find_X6_refused
theorem dX6_find_0 : decode cX6_find 0 = .ok (.iload_n 1, 1) := by decide +kernel
theorem dX6_find_1 : decode cX6_find 1 = .ok (.iconst 0, 1) := by decide +kernel
theorem dX6_find_2 : decode cX6_find 2 = .ok (.iconst 3, 1) := by decide +kernel
theorem dX6_find_3 : decode cX6_find 3 = .ok (.invokestatic 73, 3) := by decide +kernel
theorem dX6_find_6 : decode cX6_find 6 = .ok (.ifCond .eq 60, 3) := by decide +kernel
theorem dX6_find_9 : decode cX6_find 9 = .ok (.iload_n 2, 1) := by decide +kernel
theorem dX6_find_10 : decode cX6_find 10 = .ok (.iconst 0, 1) := by decide +kernel
theorem dX6_find_11 : decode cX6_find 11 = .ok (.bipush 99, 2) := by decide +kernel
theorem dX6_find_13 : decode cX6_find 13 = .ok (.invokestatic 73, 3) := by decide +kernel
theorem dX6_find_16 : decode cX6_find 16 = .ok (.ifCond .eq 50, 3) := by decide +kernel
theorem dX6_find_19 : decode cX6_find 19 = .ok (.iload_n 3, 1) := by decide +kernel
theorem dX6_find_20 : decode cX6_find 20 = .ok (.iconst 0, 1) := by decide +kernel
theorem dX6_find_21 : decode cX6_find 21 = .ok (.bipush 99, 2) := by decide +kernel
theorem dX6_find_23 : decode cX6_find 23 = .ok (.invokestatic 73, 3) := by decide +kernel
theorem dX6_find_26 : decode cX6_find 26 = .ok (.ifCond .eq 40, 3) := by decide +kernel
theorem dX6_find_29 : decode cX6_find 29 = .ok (.iload 4, 2) := by decide +kernel
theorem dX6_find_31 : decode cX6_find 31 = .ok (.iconst 0, 1) := by decide +kernel
theorem dX6_find_32 : decode cX6_find 32 = .ok (.bipush 99, 2) := by decide +kernel
theorem dX6_find_34 : decode cX6_find 34 = .ok (.invokestatic 73, 3) := by decide +kernel
theorem dX6_find_37 : decode cX6_find 37 = .ok (.ifCond .eq 29, 3) := by decide +kernel
theorem dX6_find_40 : decode cX6_find 40 = .ok (.iload 5, 2) := by decide +kernel
theorem dX6_find_42 : decode cX6_find 42 = .ok (.iconst (-1), 1) := by decide +kernel
theorem dX6_find_43 : decode cX6_find 43 = .ok (.bipush 99, 2) := by decide +kernel
theorem dX6_find_45 : decode cX6_find 45 = .ok (.invokestatic 73, 3) := by decide +kernel
theorem dX6_find_48 : decode cX6_find 48 = .ok (.ifCond .eq 18, 3) := by decide +kernel
theorem dX6_find_51 : decode cX6_find 51 = .ok (.iload 6, 2) := by decide +kernel
theorem dX6_find_53 : decode cX6_find 53 = .ok (.iconst (-1), 1) := by decide +kernel
theorem dX6_find_54 : decode cX6_find 54 = .ok (.bipush 99, 2) := by decide +kernel
theorem dX6_find_56 : decode cX6_find 56 = .ok (.invokestatic 73, 3) := by decide +kernel
theorem dX6_find_59 : decode cX6_find 59 = .ok (.ifCond .eq 7, 3) := by decide +kernel
theorem dX6_find_62 : decode cX6_find 62 = .ok (.iconst 1, 1) := by decide +kernel
theorem dX6_find_63 : decode cX6_find 63 = .ok (.goto 4, 3) := by decide +kernel
theorem dX6_find_66 : decode cX6_find 66 = .ok (.iconst 0, 1) := by decide +kernel
theorem dX6_find_67 : decode cX6_find 67 = .ok (.istore 7, 2) := by decide +kernel
theorem dX6_find_69 : decode cX6_find 69 = .ok (.aload_n 0, 1) := by decide +kernel
theorem dX6_find_70 : decode cX6_find 70 = .ok (.iload 7, 2) := by decide +kernel
theorem dX6_find_72 : decode cX6_find 72 = .ok (.ifCond .ne 7, 3) := by decide +kernel
theorem dX6_find_75 : decode cX6_find 75 = .ok (.iconst 1, 1) := by decide +kernel
theorem dX6_find_76 : decode cX6_find 76 = .ok (.goto 17, 3) := by decide +kernel
theorem dX6_find_79 : decode cX6_find 79 = .ok (.aload_n 0, 1) := by decide +kernel
theorem dX6_find_80 : decode cX6_find 80 = .ok (.getfield 70, 3) := by decide +kernel
theorem dX6_find_83 : decode cX6_find 83 = .ok (.bipush 60, 2) := by decide +kernel
theorem dX6_find_85 : decode cX6_find 85 = .ok (.if_icmp .ne 7, 3) := by decide +kernel
theorem dX6_find_88 : decode cX6_find 88 = .ok (.iconst 2, 1) := by decide +kernel
theorem dX6_find_89 : decode cX6_find 89 = .ok (.goto 4, 3) := by decide +kernel
theorem dX6_find_92 : decode cX6_find 92 = .ok (.iconst 0, 1) := by decide +kernel
theorem dX6_find_93 : decode cX6_find 93 = .ok (.invokevirtual 80, 3) := by decide +kernel
theorem dX6_find_96 : decode cX6_find 96 = .ok (.ifCond .eq 5, 3) := by decide +kernel
theorem dX6_find_99 : decode cX6_find 99 = .ok (.iconst 0, 1) := by decide +kernel
theorem dX6_find_100 : decode cX6_find 100 = .ok (.ireturn, 1) := by decide +kernel
theorem dX6_find_101 : decode cX6_find 101 = .ok (.aload_n 0, 1) := by decide +kernel
theorem dX6_find_102 : decode cX6_find 102 = .ok (.getfield 16, 3) := by decide +kernel
theorem dX6_find_105 : decode cX6_find 105 = .ok (.aload_n 0, 1) := by decide +kernel
theorem dX6_find_106 : decode cX6_find 106 = .ok (.getfield 70, 3) := by decide +kernel
theorem dX6_find_109 : decode cX6_find 109 = .ok (.iload_n 1, 1) := by decide +kernel
theorem dX6_find_110 : decode cX6_find 110 = .ok (.iastore, 1) := by decide +kernel
theorem dX6_find_111 : decode cX6_find 111 = .ok (.aload_n 0, 1) := by decide +kernel
theorem dX6_find_112 : decode cX6_find 112 = .ok (.getfield 19, 3) := by decide +kernel
theorem dX6_find_115 : decode cX6_find 115 = .ok (.aload_n 0, 1) := by decide +kernel
theorem dX6_find_116 : decode cX6_find 116 = .ok (.getfield 70, 3) := by decide +kernel
theorem dX6_find_119 : decode cX6_find 119 = .ok (.aload_n 0, 1) := by decide +kernel
theorem dX6_find_120 : decode cX6_find 120 = .ok (.getfield 77, 3) := by decide +kernel
theorem dX6_find_123 : decode cX6_find 123 = .ok (.iastore, 1) := by decide +kernel
theorem dX6_find_124 : decode cX6_find 124 = .ok (.aload_n 0, 1) := by decide +kernel
theorem dX6_find_125 : decode cX6_find 125 = .ok (.getfield 22, 3) := by decide +kernel
theorem dX6_find_128 : decode cX6_find 128 = .ok (.iconst 3, 1) := by decide +kernel
theorem dX6_find_129 : decode cX6_find 129 = .ok (.aload_n 0, 1) := by decide +kernel
theorem dX6_find_130 : decode cX6_find 130 = .ok (.getfield 70, 3) := by decide +kernel
theorem dX6_find_133 : decode cX6_find 133 = .ok (.imul, 1) := by decide +kernel
theorem dX6_find_134 : decode cX6_find 134 = .ok (.iload_n 2, 1) := by decide +kernel
theorem dX6_find_135 : decode cX6_find 135 = .ok (.iastore, 1) := by decide +kernel
theorem dX6_find_136 : decode cX6_find 136 = .ok (.aload_n 0, 1) := by decide +kernel
theorem dX6_find_137 : decode cX6_find 137 = .ok (.getfield 22, 3) := by decide +kernel
theorem dX6_find_140 : decode cX6_find 140 = .ok (.iconst 3, 1) := by decide +kernel
theorem dX6_find_141 : decode cX6_find 141 = .ok (.aload_n 0, 1) := by decide +kernel
theorem dX6_find_142 : decode cX6_find 142 = .ok (.getfield 70, 3) := by decide +kernel
theorem dX6_find_145 : decode cX6_find 145 = .ok (.imul, 1) := by decide +kernel
theorem dX6_find_146 : decode cX6_find 146 = .ok (.iconst 1, 1) := by decide +kernel
theorem dX6_find_147 : decode cX6_find 147 = .ok (.iadd, 1) := by decide +kernel
theorem dX6_find_148 : decode cX6_find 148 = .ok (.iload_n 3, 1) := by decide +kernel
theorem dX6_find_149 : decode cX6_find 149 = .ok (.iastore, 1) := by decide +kernel
theorem dX6_find_150 : decode cX6_find 150 = .ok (.aload_n 0, 1) := by decide +kernel
theorem dX6_find_151 : decode cX6_find 151 = .ok (.getfield 22, 3) := by decide +kernel
theorem dX6_find_154 : decode cX6_find 154 = .ok (.iconst 3, 1) := by decide +kernel
theorem dX6_find_155 : decode cX6_find 155 = .ok (.aload_n 0, 1) := by decide +kernel
theorem dX6_find_156 : decode cX6_find 156 = .ok (.getfield 70, 3) := by decide +kernel
theorem dX6_find_159 : decode cX6_find 159 = .ok (.imul, 1) := by decide +kernel
theorem dX6_find_160 : decode cX6_find 160 = .ok (.iconst 2, 1) := by decide +kernel
theorem dX6_find_161 : decode cX6_find 161 = .ok (.iadd, 1) := by decide +kernel
theorem dX6_find_162 : decode cX6_find 162 = .ok (.iload 4, 2) := by decide +kernel
theorem dX6_find_164 : decode cX6_find 164 = .ok (.iastore, 1) := by decide +kernel
theorem dX6_find_165 : decode cX6_find 165 = .ok (.aload_n 0, 1) := by decide +kernel
theorem dX6_find_166 : decode cX6_find 166 = .ok (.getfield 25, 3) := by decide +kernel
theorem dX6_find_169 : decode cX6_find 169 = .ok (.iconst 2, 1) := by decide +kernel
theorem dX6_find_170 : decode cX6_find 170 = .ok (.aload_n 0, 1) := by decide +kernel
theorem dX6_find_171 : decode cX6_find 171 = .ok (.getfield 70, 3) := by decide +kernel
theorem dX6_find_174 : decode cX6_find 174 = .ok (.imul, 1) := by decide +kernel
theorem dX6_find_175 : decode cX6_find 175 = .ok (.iload 5, 2) := by decide +kernel
theorem dX6_find_177 : decode cX6_find 177 = .ok (.iastore, 1) := by decide +kernel
theorem dX6_find_178 : decode cX6_find 178 = .ok (.aload_n 0, 1) := by decide +kernel
theorem dX6_find_179 : decode cX6_find 179 = .ok (.getfield 25, 3) := by decide +kernel
theorem dX6_find_182 : decode cX6_find 182 = .ok (.iconst 2, 1) := by decide +kernel
theorem dX6_find_183 : decode cX6_find 183 = .ok (.aload_n 0, 1) := by decide +kernel
theorem dX6_find_184 : decode cX6_find 184 = .ok (.getfield 70, 3) := by decide +kernel
theorem dX6_find_187 : decode cX6_find 187 = .ok (.imul, 1) := by decide +kernel
theorem dX6_find_188 : decode cX6_find 188 = .ok (.iconst 1, 1) := by decide +kernel
theorem dX6_find_189 : decode cX6_find 189 = .ok (.iadd, 1) := by decide +kernel
theorem dX6_find_190 : decode cX6_find 190 = .ok (.iload 6, 2) := by decide +kernel
theorem dX6_find_192 : decode cX6_find 192 = .ok (.iastore, 1) := by decide +kernel
theorem dX6_find_193 : decode cX6_find 193 = .ok (.aload_n 0, 1) := by decide +kernel
theorem dX6_find_194 : decode cX6_find 194 = .ok (.dup, 1) := by decide +kernel
theorem dX6_find_195 : decode cX6_find 195 = .ok (.getfield 70, 3) := by decide +kernel
theorem dX6_find_198 : decode cX6_find 198 = .ok (.iconst 1, 1) := by decide +kernel
theorem dX6_find_199 : decode cX6_find 199 = .ok (.iadd, 1) := by decide +kernel
theorem dX6_find_200 : decode cX6_find 200 = .ok (.putfield 70, 3) := by decide +kernel
theorem dX6_find_203 : decode cX6_find 203 = .ok (.aload_n 0, 1) := by decide +kernel
theorem dX6_find_204 : decode cX6_find 204 = .ok (.getfield 70, 3) := by decide +kernel
theorem dX6_find_207 : decode cX6_find 207 = .ok (.iconst 1, 1) := by decide +kernel
theorem dX6_find_208 : decode cX6_find 208 = .ok (.isub, 1) := by decide +kernel
theorem dX6_find_209 : decode cX6_find 209 = .ok (.ireturn, 1) := by decide +kernel
set_option maxRecDepth 20000 in
theorem ggX6_strike_X6_isFind : GoodIn wsX6_strike wsX6_isFind := goodIn_r _ [6, 7, 8, 9, 5, 10, 16, 17, 18, 19, 20, 21, 22, 23, 24, 25, 26, 27, 28, 29, 30, 31, 32, 33, 34, 35, 36, 37, 38] (by decide +kernel) (by decide +kernel)
set_option maxRecDepth 20000 in
theorem gX6_strike_X6_isFind : GoodIn wsX6_strike (wsV RX6 88 RX6 yX6_isFind wsX6_isFind) := goodIn_app (goodIn_of _ (by decide +kernel)) ggX6_strike_X6_isFind
set_option maxRecDepth 20000 in
theorem ggX6_strike_X6_refused : GoodIn wsX6_strike wsX6_refused := goodIn_r _ [14, 15, 16, 17, 18, 19, 20, 21, 22, 23, 24, 25, 26, 27, 28, 29, 30, 31, 32, 33, 34, 35, 36, 37, 38] (by decide +kernel) (by decide +kernel)
set_option maxRecDepth 20000 in
theorem gX6_strike_X6_refused : GoodIn wsX6_strike (wsV RX6 80 RX6 yX6_refused wsX6_refused) := goodIn_app (goodIn_of _ (by decide +kernel)) ggX6_strike_X6_refused
theorem dX6_strike_0 : decode cX6_strike 0 = .ok (.aload_n 0, 1) := by decide +kernel
theorem dX6_strike_1 : decode cX6_strike 1 = .ok (.aload_n 0, 1) := by decide +kernel
theorem dX6_strike_2 : decode cX6_strike 2 = .ok (.iload_n 1, 1) := by decide +kernel
theorem dX6_strike_3 : decode cX6_strike 3 = .ok (.invokevirtual 88, 3) := by decide +kernel
theorem dX6_strike_6 : decode cX6_strike 6 = .ok (.ifCond .eq 7, 3) := by decide +kernel
theorem dX6_strike_9 : decode cX6_strike 9 = .ok (.iconst 0, 1) := by decide +kernel
theorem dX6_strike_10 : decode cX6_strike 10 = .ok (.goto 4, 3) := by decide +kernel
theorem dX6_strike_13 : decode cX6_strike 13 = .ok (.iconst 1, 1) := by decide +kernel
theorem dX6_strike_14 : decode cX6_strike 14 = .ok (.invokevirtual 80, 3) := by decide +kernel
theorem dX6_strike_17 : decode cX6_strike 17 = .ok (.ifCond .eq 5, 3) := by decide +kernel
theorem dX6_strike_20 : decode cX6_strike 20 = .ok (.iconst 0, 1) := by decide +kernel
theorem dX6_strike_21 : decode cX6_strike 21 = .ok (.ireturn, 1) := by decide +kernel
theorem dX6_strike_22 : decode cX6_strike 22 = .ok (.aload_n 0, 1) := by decide +kernel
theorem dX6_strike_23 : decode cX6_strike 23 = .ok (.getfield 28, 3) := by decide +kernel
theorem dX6_strike_26 : decode cX6_strike 26 = .ok (.iload_n 1, 1) := by decide +kernel
theorem dX6_strike_27 : decode cX6_strike 27 = .ok (.baload, 1) := by decide +kernel
theorem dX6_strike_28 : decode cX6_strike 28 = .ok (.ifCond .ne 7, 3) := by decide +kernel
theorem dX6_strike_31 : decode cX6_strike 31 = .ok (.iconst 1, 1) := by decide +kernel
theorem dX6_strike_32 : decode cX6_strike 32 = .ok (.goto 4, 3) := by decide +kernel
theorem dX6_strike_35 : decode cX6_strike 35 = .ok (.iconst 0, 1) := by decide +kernel
theorem dX6_strike_36 : decode cX6_strike 36 = .ok (.istore_n 2, 1) := by decide +kernel
theorem dX6_strike_37 : decode cX6_strike 37 = .ok (.aload_n 0, 1) := by decide +kernel
theorem dX6_strike_38 : decode cX6_strike 38 = .ok (.getfield 28, 3) := by decide +kernel
theorem dX6_strike_41 : decode cX6_strike 41 = .ok (.iload_n 1, 1) := by decide +kernel
theorem dX6_strike_42 : decode cX6_strike 42 = .ok (.iconst 1, 1) := by decide +kernel
theorem dX6_strike_43 : decode cX6_strike 43 = .ok (.bastore, 1) := by decide +kernel
theorem dX6_strike_44 : decode cX6_strike 44 = .ok (.iload_n 2, 1) := by decide +kernel
theorem dX6_strike_45 : decode cX6_strike 45 = .ok (.ireturn, 1) := by decide +kernel
set_option maxRecDepth 20000 in
theorem ggX6_tell_X6_isFind : GoodIn wsX6_tell wsX6_isFind := goodIn_r _ [6, 7, 8, 9, 5, 10, 16, 17, 18, 19, 20, 21, 22, 23, 24, 25, 26, 27, 28, 29, 30, 31, 32, 33, 34, 35, 36, 37, 38] (by decide +kernel) (by decide +kernel)
set_option maxRecDepth 20000 in
theorem gX6_tell_X6_isFind : GoodIn wsX6_tell (wsV RX6 88 RX6 yX6_isFind wsX6_isFind) := goodIn_app (goodIn_of _ (by decide +kernel)) ggX6_tell_X6_isFind
set_option maxRecDepth 20000 in
theorem ggX6_tell_X6_in : GoodIn wsX6_tell wsX6_in := goodIn_r _ [10] (by decide +kernel) (by decide +kernel)
set_option maxRecDepth 20000 in
theorem gX6_tell_X6_in : GoodIn wsX6_tell (va_wsS RX6 73 yX6_in wsX6_in) := goodIn_app (goodIn_of _ (by decide +kernel)) ggX6_tell_X6_in
set_option maxRecDepth 20000 in
theorem ggX6_tell_X6_refused : GoodIn wsX6_tell wsX6_refused := goodIn_r _ [14, 15, 16, 17, 18, 19, 20, 21, 22, 23, 24, 25, 26, 27, 28, 29, 30, 31, 32, 33, 34, 35, 36, 37, 38] (by decide +kernel) (by decide +kernel)
set_option maxRecDepth 20000 in
theorem gX6_tell_X6_refused : GoodIn wsX6_tell (wsV RX6 80 RX6 yX6_refused wsX6_refused) := goodIn_app (goodIn_of _ (by decide +kernel)) ggX6_tell_X6_refused
theorem dX6_tell_0 : decode cX6_tell 0 = .ok (.aload_n 0, 1) := by decide +kernel
theorem dX6_tell_1 : decode cX6_tell 1 = .ok (.iload_n 1, 1) := by decide +kernel
theorem dX6_tell_2 : decode cX6_tell 2 = .ok (.invokevirtual 88, 3) := by decide +kernel
theorem dX6_tell_5 : decode cX6_tell 5 = .ok (.ifCond .eq 15, 3) := by decide +kernel
theorem dX6_tell_8 : decode cX6_tell 8 = .ok (.aload_n 0, 1) := by decide +kernel
theorem dX6_tell_9 : decode cX6_tell 9 = .ok (.iload_n 2, 1) := by decide +kernel
theorem dX6_tell_10 : decode cX6_tell 10 = .ok (.invokevirtual 88, 3) := by decide +kernel
theorem dX6_tell_13 : decode cX6_tell 13 = .ok (.ifCond .eq 7, 3) := by decide +kernel
theorem dX6_tell_16 : decode cX6_tell 16 = .ok (.iconst 1, 1) := by decide +kernel
theorem dX6_tell_17 : decode cX6_tell 17 = .ok (.goto 4, 3) := by decide +kernel
theorem dX6_tell_20 : decode cX6_tell 20 = .ok (.iconst 0, 1) := by decide +kernel
theorem dX6_tell_21 : decode cX6_tell 21 = .ok (.istore 4, 2) := by decide +kernel
theorem dX6_tell_23 : decode cX6_tell 23 = .ok (.aload_n 0, 1) := by decide +kernel
theorem dX6_tell_24 : decode cX6_tell 24 = .ok (.iload 4, 2) := by decide +kernel
theorem dX6_tell_26 : decode cX6_tell 26 = .ok (.ifCond .ne 7, 3) := by decide +kernel
theorem dX6_tell_29 : decode cX6_tell 29 = .ok (.iconst 1, 1) := by decide +kernel
theorem dX6_tell_30 : decode cX6_tell 30 = .ok (.goto 22, 3) := by decide +kernel
theorem dX6_tell_33 : decode cX6_tell 33 = .ok (.iload_n 1, 1) := by decide +kernel
theorem dX6_tell_34 : decode cX6_tell 34 = .ok (.iload_n 2, 1) := by decide +kernel
theorem dX6_tell_35 : decode cX6_tell 35 = .ok (.if_icmp .eq 16, 3) := by decide +kernel
theorem dX6_tell_38 : decode cX6_tell 38 = .ok (.iload_n 3, 1) := by decide +kernel
theorem dX6_tell_39 : decode cX6_tell 39 = .ok (.iconst 0, 1) := by decide +kernel
theorem dX6_tell_40 : decode cX6_tell 40 = .ok (.iconst 2, 1) := by decide +kernel
theorem dX6_tell_41 : decode cX6_tell 41 = .ok (.invokestatic 73, 3) := by decide +kernel
theorem dX6_tell_44 : decode cX6_tell 44 = .ok (.ifCond .eq 7, 3) := by decide +kernel
theorem dX6_tell_47 : decode cX6_tell 47 = .ok (.iconst 0, 1) := by decide +kernel
theorem dX6_tell_48 : decode cX6_tell 48 = .ok (.goto 4, 3) := by decide +kernel
theorem dX6_tell_51 : decode cX6_tell 51 = .ok (.iconst 2, 1) := by decide +kernel
theorem dX6_tell_52 : decode cX6_tell 52 = .ok (.invokevirtual 80, 3) := by decide +kernel
theorem dX6_tell_55 : decode cX6_tell 55 = .ok (.ifCond .eq 5, 3) := by decide +kernel
theorem dX6_tell_58 : decode cX6_tell 58 = .ok (.iconst 0, 1) := by decide +kernel
theorem dX6_tell_59 : decode cX6_tell 59 = .ok (.ireturn, 1) := by decide +kernel
theorem dX6_tell_60 : decode cX6_tell 60 = .ok (.aload_n 0, 1) := by decide +kernel
theorem dX6_tell_61 : decode cX6_tell 61 = .ok (.getfield 32, 3) := by decide +kernel
theorem dX6_tell_64 : decode cX6_tell 64 = .ok (.bipush 60, 2) := by decide +kernel
theorem dX6_tell_66 : decode cX6_tell 66 = .ok (.iload_n 1, 1) := by decide +kernel
theorem dX6_tell_67 : decode cX6_tell 67 = .ok (.imul, 1) := by decide +kernel
theorem dX6_tell_68 : decode cX6_tell 68 = .ok (.iload_n 2, 1) := by decide +kernel
theorem dX6_tell_69 : decode cX6_tell 69 = .ok (.iadd, 1) := by decide +kernel
theorem dX6_tell_70 : decode cX6_tell 70 = .ok (.baload, 1) := by decide +kernel
theorem dX6_tell_71 : decode cX6_tell 71 = .ok (.istore 5, 2) := by decide +kernel
theorem dX6_tell_73 : decode cX6_tell 73 = .ok (.aload_n 0, 1) := by decide +kernel
theorem dX6_tell_74 : decode cX6_tell 74 = .ok (.getfield 32, 3) := by decide +kernel
theorem dX6_tell_77 : decode cX6_tell 77 = .ok (.bipush 60, 2) := by decide +kernel
theorem dX6_tell_79 : decode cX6_tell 79 = .ok (.iload_n 1, 1) := by decide +kernel
theorem dX6_tell_80 : decode cX6_tell 80 = .ok (.imul, 1) := by decide +kernel
theorem dX6_tell_81 : decode cX6_tell 81 = .ok (.iload_n 2, 1) := by decide +kernel
theorem dX6_tell_82 : decode cX6_tell 82 = .ok (.iadd, 1) := by decide +kernel
theorem dX6_tell_83 : decode cX6_tell 83 = .ok (.iload_n 3, 1) := by decide +kernel
theorem dX6_tell_84 : decode cX6_tell 84 = .ok (.i2b, 1) := by decide +kernel
theorem dX6_tell_85 : decode cX6_tell 85 = .ok (.bastore, 1) := by decide +kernel
theorem dX6_tell_86 : decode cX6_tell 86 = .ok (.aload_n 0, 1) := by decide +kernel
theorem dX6_tell_87 : decode cX6_tell 87 = .ok (.getfield 32, 3) := by decide +kernel
theorem dX6_tell_90 : decode cX6_tell 90 = .ok (.bipush 60, 2) := by decide +kernel
theorem dX6_tell_92 : decode cX6_tell 92 = .ok (.iload_n 2, 1) := by decide +kernel
theorem dX6_tell_93 : decode cX6_tell 93 = .ok (.imul, 1) := by decide +kernel
theorem dX6_tell_94 : decode cX6_tell 94 = .ok (.iload_n 1, 1) := by decide +kernel
theorem dX6_tell_95 : decode cX6_tell 95 = .ok (.iadd, 1) := by decide +kernel
theorem dX6_tell_96 : decode cX6_tell 96 = .ok (.iload_n 3, 1) := by decide +kernel
theorem dX6_tell_97 : decode cX6_tell 97 = .ok (.i2b, 1) := by decide +kernel
theorem dX6_tell_98 : decode cX6_tell 98 = .ok (.bastore, 1) := by decide +kernel
theorem dX6_tell_99 : decode cX6_tell 99 = .ok (.iload 5, 2) := by decide +kernel
theorem dX6_tell_101 : decode cX6_tell 101 = .ok (.ireturn, 1) := by decide +kernel
theorem dX6_countsOn_0 : decode cX6_countsOn 0 = .ok (.aload_n 0, 1) := by decide +kernel
theorem dX6_countsOn_1 : decode cX6_countsOn 1 = .ok (.getfield 28, 3) := by decide +kernel
theorem dX6_countsOn_4 : decode cX6_countsOn 4 = .ok (.iload_n 1, 1) := by decide +kernel
theorem dX6_countsOn_5 : decode cX6_countsOn 5 = .ok (.baload, 1) := by decide +kernel
theorem dX6_countsOn_6 : decode cX6_countsOn 6 = .ok (.ifCond .ne 39, 3) := by decide +kernel
theorem dX6_countsOn_9 : decode cX6_countsOn 9 = .ok (.aload_n 0, 1) := by decide +kernel
theorem dX6_countsOn_10 : decode cX6_countsOn 10 = .ok (.getfield 19, 3) := by decide +kernel
theorem dX6_countsOn_13 : decode cX6_countsOn 13 = .ok (.iload_n 1, 1) := by decide +kernel
theorem dX6_countsOn_14 : decode cX6_countsOn 14 = .ok (.iaload, 1) := by decide +kernel
theorem dX6_countsOn_15 : decode cX6_countsOn 15 = .ok (.iload_n 2, 1) := by decide +kernel
theorem dX6_countsOn_16 : decode cX6_countsOn 16 = .ok (.if_icmp .gt 29, 3) := by decide +kernel
theorem dX6_countsOn_19 : decode cX6_countsOn 19 = .ok (.iload_n 2, 1) := by decide +kernel
theorem dX6_countsOn_20 : decode cX6_countsOn 20 = .ok (.aload_n 0, 1) := by decide +kernel
theorem dX6_countsOn_21 : decode cX6_countsOn 21 = .ok (.getfield 19, 3) := by decide +kernel
theorem dX6_countsOn_24 : decode cX6_countsOn 24 = .ok (.iload_n 1, 1) := by decide +kernel
theorem dX6_countsOn_25 : decode cX6_countsOn 25 = .ok (.iaload, 1) := by decide +kernel
theorem dX6_countsOn_26 : decode cX6_countsOn 26 = .ok (.isub, 1) := by decide +kernel
theorem dX6_countsOn_27 : decode cX6_countsOn 27 = .ok (.aload_n 0, 1) := by decide +kernel
theorem dX6_countsOn_28 : decode cX6_countsOn 28 = .ok (.getfield 7, 3) := by decide +kernel
theorem dX6_countsOn_31 : decode cX6_countsOn 31 = .ok (.aload_n 0, 1) := by decide +kernel
theorem dX6_countsOn_32 : decode cX6_countsOn 32 = .ok (.getfield 16, 3) := by decide +kernel
theorem dX6_countsOn_35 : decode cX6_countsOn 35 = .ok (.iload_n 1, 1) := by decide +kernel
theorem dX6_countsOn_36 : decode cX6_countsOn 36 = .ok (.iaload, 1) := by decide +kernel
theorem dX6_countsOn_37 : decode cX6_countsOn 37 = .ok (.iaload, 1) := by decide +kernel
theorem dX6_countsOn_38 : decode cX6_countsOn 38 = .ok (.if_icmp .gt 7, 3) := by decide +kernel
theorem dX6_countsOn_41 : decode cX6_countsOn 41 = .ok (.iconst 1, 1) := by decide +kernel
theorem dX6_countsOn_42 : decode cX6_countsOn 42 = .ok (.goto 4, 3) := by decide +kernel
theorem dX6_countsOn_45 : decode cX6_countsOn 45 = .ok (.iconst 0, 1) := by decide +kernel
theorem dX6_countsOn_46 : decode cX6_countsOn 46 = .ok (.ireturn, 1) := by decide +kernel
set_option maxRecDepth 20000 in
theorem ggX6_counts_X6_isFind : GoodIn wsX6_counts wsX6_isFind := goodIn_r _ [5, 6, 7, 8, 4, 9, 26, 27, 28, 29, 30, 31, 32, 33, 34, 35, 36, 37, 38, 39, 40, 41, 42, 43, 44, 45, 46, 47, 48] (by decide +kernel) (by decide +kernel)
set_option maxRecDepth 20000 in
theorem gX6_counts_X6_isFind : GoodIn wsX6_counts (wsV RX6 88 RX6 yX6_isFind wsX6_isFind) := goodIn_app (goodIn_of _ (by decide +kernel)) ggX6_counts_X6_isFind
set_option maxRecDepth 20000 in
theorem ggX6_counts_X6_isDay : GoodIn wsX6_counts wsX6_isDay := goodIn_r _ [12, 7, 8, 4, 9] (by decide +kernel) (by decide +kernel)
set_option maxRecDepth 20000 in
theorem gX6_counts_X6_isDay : GoodIn wsX6_counts (va_wsS RX6 91 yX6_isDay wsX6_isDay) := goodIn_app (goodIn_of _ (by decide +kernel)) ggX6_counts_X6_isDay
set_option maxRecDepth 20000 in
theorem ggX6_counts_X6_refused : GoodIn wsX6_counts wsX6_refused := goodIn_r _ [16, 17, 26, 27, 28, 29, 30, 31, 32, 33, 34, 35, 36, 37, 38, 39, 40, 41, 42, 43, 44, 45, 46, 47, 48] (by decide +kernel) (by decide +kernel)
set_option maxRecDepth 20000 in
theorem gX6_counts_X6_refused : GoodIn wsX6_counts (wsV RX6 80 RX6 yX6_refused wsX6_refused) := goodIn_app (goodIn_of _ (by decide +kernel)) ggX6_counts_X6_refused
set_option maxRecDepth 20000 in
theorem ggX6_counts_X6_countsOn : GoodIn wsX6_counts wsX6_countsOn := goodIn_r _ [21, 22, 23, 24, 25, 26, 27, 28, 29, 30, 31, 32, 33, 34, 35, 36, 37, 38, 39, 40, 41, 42, 43, 44, 45, 46, 47, 48] (by decide +kernel) (by decide +kernel)
set_option maxRecDepth 20000 in
theorem gX6_counts_X6_countsOn : GoodIn wsX6_counts (wsV RX6 94 RX6 yX6_countsOn wsX6_countsOn) := goodIn_app (goodIn_of _ (by decide +kernel)) ggX6_counts_X6_countsOn
theorem dX6_counts_0 : decode cX6_counts 0 = .ok (.aload_n 0, 1) := by decide +kernel
theorem dX6_counts_1 : decode cX6_counts 1 = .ok (.aload_n 0, 1) := by decide +kernel
theorem dX6_counts_2 : decode cX6_counts 2 = .ok (.iload_n 1, 1) := by decide +kernel
theorem dX6_counts_3 : decode cX6_counts 3 = .ok (.invokevirtual 88, 3) := by decide +kernel
theorem dX6_counts_6 : decode cX6_counts 6 = .ok (.ifCond .ne 7, 3) := by decide +kernel
theorem dX6_counts_9 : decode cX6_counts 9 = .ok (.iconst 1, 1) := by decide +kernel
theorem dX6_counts_10 : decode cX6_counts 10 = .ok (.goto 15, 3) := by decide +kernel
theorem dX6_counts_13 : decode cX6_counts 13 = .ok (.iload_n 2, 1) := by decide +kernel
theorem dX6_counts_14 : decode cX6_counts 14 = .ok (.invokestatic 91, 3) := by decide +kernel
theorem dX6_counts_17 : decode cX6_counts 17 = .ok (.ifCond .eq 7, 3) := by decide +kernel
theorem dX6_counts_20 : decode cX6_counts 20 = .ok (.iconst 0, 1) := by decide +kernel
theorem dX6_counts_21 : decode cX6_counts 21 = .ok (.goto 4, 3) := by decide +kernel
theorem dX6_counts_24 : decode cX6_counts 24 = .ok (.iconst 2, 1) := by decide +kernel
theorem dX6_counts_25 : decode cX6_counts 25 = .ok (.invokevirtual 80, 3) := by decide +kernel
theorem dX6_counts_28 : decode cX6_counts 28 = .ok (.ifCond .ne 16, 3) := by decide +kernel
theorem dX6_counts_31 : decode cX6_counts 31 = .ok (.aload_n 0, 1) := by decide +kernel
theorem dX6_counts_32 : decode cX6_counts 32 = .ok (.iload_n 1, 1) := by decide +kernel
theorem dX6_counts_33 : decode cX6_counts 33 = .ok (.iload_n 2, 1) := by decide +kernel
theorem dX6_counts_34 : decode cX6_counts 34 = .ok (.invokevirtual 94, 3) := by decide +kernel
theorem dX6_counts_37 : decode cX6_counts 37 = .ok (.ifCond .eq 7, 3) := by decide +kernel
theorem dX6_counts_40 : decode cX6_counts 40 = .ok (.iconst 1, 1) := by decide +kernel
theorem dX6_counts_41 : decode cX6_counts 41 = .ok (.goto 4, 3) := by decide +kernel
theorem dX6_counts_44 : decode cX6_counts 44 = .ok (.iconst 0, 1) := by decide +kernel
theorem dX6_counts_45 : decode cX6_counts 45 = .ok (.ireturn, 1) := by decide +kernel
theorem dX6_haveSame_0 : decode cX6_haveSame 0 = .ok (.aload_n 0, 1) := by decide +kernel
theorem dX6_haveSame_1 : decode cX6_haveSame 1 = .ok (.getfield 22, 3) := by decide +kernel
theorem dX6_haveSame_4 : decode cX6_haveSame 4 = .ok (.iconst 3, 1) := by decide +kernel
theorem dX6_haveSame_5 : decode cX6_haveSame 5 = .ok (.iload_n 1, 1) := by decide +kernel
theorem dX6_haveSame_6 : decode cX6_haveSame 6 = .ok (.imul, 1) := by decide +kernel
theorem dX6_haveSame_7 : decode cX6_haveSame 7 = .ok (.iload_n 3, 1) := by decide +kernel
theorem dX6_haveSame_8 : decode cX6_haveSame 8 = .ok (.iadd, 1) := by decide +kernel
theorem dX6_haveSame_9 : decode cX6_haveSame 9 = .ok (.iaload, 1) := by decide +kernel
theorem dX6_haveSame_10 : decode cX6_haveSame 10 = .ok (.ifCond .eq 30, 3) := by decide +kernel
theorem dX6_haveSame_13 : decode cX6_haveSame 13 = .ok (.aload_n 0, 1) := by decide +kernel
theorem dX6_haveSame_14 : decode cX6_haveSame 14 = .ok (.getfield 22, 3) := by decide +kernel
theorem dX6_haveSame_17 : decode cX6_haveSame 17 = .ok (.iconst 3, 1) := by decide +kernel
theorem dX6_haveSame_18 : decode cX6_haveSame 18 = .ok (.iload_n 1, 1) := by decide +kernel
theorem dX6_haveSame_19 : decode cX6_haveSame 19 = .ok (.imul, 1) := by decide +kernel
theorem dX6_haveSame_20 : decode cX6_haveSame 20 = .ok (.iload_n 3, 1) := by decide +kernel
theorem dX6_haveSame_21 : decode cX6_haveSame 21 = .ok (.iadd, 1) := by decide +kernel
theorem dX6_haveSame_22 : decode cX6_haveSame 22 = .ok (.iaload, 1) := by decide +kernel
theorem dX6_haveSame_23 : decode cX6_haveSame 23 = .ok (.aload_n 0, 1) := by decide +kernel
theorem dX6_haveSame_24 : decode cX6_haveSame 24 = .ok (.getfield 22, 3) := by decide +kernel
theorem dX6_haveSame_27 : decode cX6_haveSame 27 = .ok (.iconst 3, 1) := by decide +kernel
theorem dX6_haveSame_28 : decode cX6_haveSame 28 = .ok (.iload_n 2, 1) := by decide +kernel
theorem dX6_haveSame_29 : decode cX6_haveSame 29 = .ok (.imul, 1) := by decide +kernel
theorem dX6_haveSame_30 : decode cX6_haveSame 30 = .ok (.iload_n 3, 1) := by decide +kernel
theorem dX6_haveSame_31 : decode cX6_haveSame 31 = .ok (.iadd, 1) := by decide +kernel
theorem dX6_haveSame_32 : decode cX6_haveSame 32 = .ok (.iaload, 1) := by decide +kernel
theorem dX6_haveSame_33 : decode cX6_haveSame 33 = .ok (.if_icmp .ne 7, 3) := by decide +kernel
theorem dX6_haveSame_36 : decode cX6_haveSame 36 = .ok (.iconst 1, 1) := by decide +kernel
theorem dX6_haveSame_37 : decode cX6_haveSame 37 = .ok (.goto 4, 3) := by decide +kernel
theorem dX6_haveSame_40 : decode cX6_haveSame 40 = .ok (.iconst 0, 1) := by decide +kernel
theorem dX6_haveSame_41 : decode cX6_haveSame 41 = .ok (.ireturn, 1) := by decide +kernel
set_option maxRecDepth 20000 in
theorem ggX6_areSame_X6_haveSame : GoodIn wsX6_areSame wsX6_haveSame := goodIn_r _ [7, 2, 8, 9, 10, 11, 12, 13, 14, 15, 16, 17, 18, 19, 20, 21, 22, 23, 24, 25, 26, 27, 28, 29, 30] (by decide +kernel) (by decide +kernel)
set_option maxRecDepth 20000 in
theorem gX6_areSame_X6_haveSame : GoodIn wsX6_areSame (wsV RX6 98 RX6 yX6_haveSame wsX6_haveSame) := goodIn_app (goodIn_of _ (by decide +kernel)) ggX6_areSame_X6_haveSame
theorem dX6_areSame_0 : decode cX6_areSame 0 = .ok (.aload_n 0, 1) := by decide +kernel
theorem dX6_areSame_1 : decode cX6_areSame 1 = .ok (.getfield 32, 3) := by decide +kernel
theorem dX6_areSame_4 : decode cX6_areSame 4 = .ok (.bipush 60, 2) := by decide +kernel
theorem dX6_areSame_6 : decode cX6_areSame 6 = .ok (.iload_n 1, 1) := by decide +kernel
theorem dX6_areSame_7 : decode cX6_areSame 7 = .ok (.imul, 1) := by decide +kernel
theorem dX6_areSame_8 : decode cX6_areSame 8 = .ok (.iload_n 2, 1) := by decide +kernel
theorem dX6_areSame_9 : decode cX6_areSame 9 = .ok (.iadd, 1) := by decide +kernel
theorem dX6_areSame_10 : decode cX6_areSame 10 = .ok (.baload, 1) := by decide +kernel
theorem dX6_areSame_11 : decode cX6_areSame 11 = .ok (.istore_n 3, 1) := by decide +kernel
theorem dX6_areSame_12 : decode cX6_areSame 12 = .ok (.aload_n 0, 1) := by decide +kernel
theorem dX6_areSame_13 : decode cX6_areSame 13 = .ok (.getfield 22, 3) := by decide +kernel
theorem dX6_areSame_16 : decode cX6_areSame 16 = .ok (.iconst 3, 1) := by decide +kernel
theorem dX6_areSame_17 : decode cX6_areSame 17 = .ok (.iload_n 1, 1) := by decide +kernel
theorem dX6_areSame_18 : decode cX6_areSame 18 = .ok (.imul, 1) := by decide +kernel
theorem dX6_areSame_19 : decode cX6_areSame 19 = .ok (.iaload, 1) := by decide +kernel
theorem dX6_areSame_20 : decode cX6_areSame 20 = .ok (.ifCond .eq 18, 3) := by decide +kernel
theorem dX6_areSame_23 : decode cX6_areSame 23 = .ok (.aload_n 0, 1) := by decide +kernel
theorem dX6_areSame_24 : decode cX6_areSame 24 = .ok (.getfield 22, 3) := by decide +kernel
theorem dX6_areSame_27 : decode cX6_areSame 27 = .ok (.iconst 3, 1) := by decide +kernel
theorem dX6_areSame_28 : decode cX6_areSame 28 = .ok (.iload_n 2, 1) := by decide +kernel
theorem dX6_areSame_29 : decode cX6_areSame 29 = .ok (.imul, 1) := by decide +kernel
theorem dX6_areSame_30 : decode cX6_areSame 30 = .ok (.iaload, 1) := by decide +kernel
theorem dX6_areSame_31 : decode cX6_areSame 31 = .ok (.ifCond .eq 7, 3) := by decide +kernel
theorem dX6_areSame_34 : decode cX6_areSame 34 = .ok (.iconst 1, 1) := by decide +kernel
theorem dX6_areSame_35 : decode cX6_areSame 35 = .ok (.goto 4, 3) := by decide +kernel
theorem dX6_areSame_38 : decode cX6_areSame 38 = .ok (.iconst 0, 1) := by decide +kernel
theorem dX6_areSame_39 : decode cX6_areSame 39 = .ok (.istore 4, 2) := by decide +kernel
theorem dX6_areSame_41 : decode cX6_areSame 41 = .ok (.iload 4, 2) := by decide +kernel
theorem dX6_areSame_43 : decode cX6_areSame 43 = .ok (.ifCond .eq 13, 3) := by decide +kernel
theorem dX6_areSame_46 : decode cX6_areSame 46 = .ok (.aload_n 0, 1) := by decide +kernel
theorem dX6_areSame_47 : decode cX6_areSame 47 = .ok (.iload_n 1, 1) := by decide +kernel
theorem dX6_areSame_48 : decode cX6_areSame 48 = .ok (.iload_n 2, 1) := by decide +kernel
theorem dX6_areSame_49 : decode cX6_areSame 49 = .ok (.iconst 0, 1) := by decide +kernel
theorem dX6_areSame_50 : decode cX6_areSame 50 = .ok (.invokevirtual 98, 3) := by decide +kernel
theorem dX6_areSame_53 : decode cX6_areSame 53 = .ok (.goto 28, 3) := by decide +kernel
theorem dX6_areSame_56 : decode cX6_areSame 56 = .ok (.aload_n 0, 1) := by decide +kernel
theorem dX6_areSame_57 : decode cX6_areSame 57 = .ok (.iload_n 1, 1) := by decide +kernel
theorem dX6_areSame_58 : decode cX6_areSame 58 = .ok (.iload_n 2, 1) := by decide +kernel
theorem dX6_areSame_59 : decode cX6_areSame 59 = .ok (.iconst 1, 1) := by decide +kernel
theorem dX6_areSame_60 : decode cX6_areSame 60 = .ok (.invokevirtual 98, 3) := by decide +kernel
theorem dX6_areSame_63 : decode cX6_areSame 63 = .ok (.ifCond .eq 17, 3) := by decide +kernel
theorem dX6_areSame_66 : decode cX6_areSame 66 = .ok (.aload_n 0, 1) := by decide +kernel
theorem dX6_areSame_67 : decode cX6_areSame 67 = .ok (.iload_n 1, 1) := by decide +kernel
theorem dX6_areSame_68 : decode cX6_areSame 68 = .ok (.iload_n 2, 1) := by decide +kernel
theorem dX6_areSame_69 : decode cX6_areSame 69 = .ok (.iconst 2, 1) := by decide +kernel
theorem dX6_areSame_70 : decode cX6_areSame 70 = .ok (.invokevirtual 98, 3) := by decide +kernel
theorem dX6_areSame_73 : decode cX6_areSame 73 = .ok (.ifCond .eq 7, 3) := by decide +kernel
theorem dX6_areSame_76 : decode cX6_areSame 76 = .ok (.iconst 1, 1) := by decide +kernel
theorem dX6_areSame_77 : decode cX6_areSame 77 = .ok (.goto 4, 3) := by decide +kernel
theorem dX6_areSame_80 : decode cX6_areSame 80 = .ok (.iconst 0, 1) := by decide +kernel
theorem dX6_areSame_81 : decode cX6_areSame 81 = .ok (.istore 5, 2) := by decide +kernel
theorem dX6_areSame_83 : decode cX6_areSame 83 = .ok (.iload_n 3, 1) := by decide +kernel
theorem dX6_areSame_84 : decode cX6_areSame 84 = .ok (.iconst 1, 1) := by decide +kernel
theorem dX6_areSame_85 : decode cX6_areSame 85 = .ok (.if_icmp .eq 12, 3) := by decide +kernel
theorem dX6_areSame_88 : decode cX6_areSame 88 = .ok (.iload_n 3, 1) := by decide +kernel
theorem dX6_areSame_89 : decode cX6_areSame 89 = .ok (.ifCond .ne 12, 3) := by decide +kernel
theorem dX6_areSame_92 : decode cX6_areSame 92 = .ok (.iload 5, 2) := by decide +kernel
theorem dX6_areSame_94 : decode cX6_areSame 94 = .ok (.ifCond .eq 7, 3) := by decide +kernel
theorem dX6_areSame_97 : decode cX6_areSame 97 = .ok (.iconst 1, 1) := by decide +kernel
theorem dX6_areSame_98 : decode cX6_areSame 98 = .ok (.goto 4, 3) := by decide +kernel
theorem dX6_areSame_101 : decode cX6_areSame 101 = .ok (.iconst 0, 1) := by decide +kernel
theorem dX6_areSame_102 : decode cX6_areSame 102 = .ok (.ireturn, 1) := by decide +kernel
set_option maxRecDepth 20000 in
theorem ggX6_lay_X6_countsOn : GoodIn wsX6_lay wsX6_countsOn := goodIn_r _ [7, 8, 9, 10, 11, 26, 27, 28, 29, 30, 31, 32, 33, 34, 35, 36, 37, 38, 39, 40, 41, 42, 43, 44, 45, 46, 47, 48] (by decide +kernel) (by decide +kernel)
set_option maxRecDepth 20000 in
theorem gX6_lay_X6_countsOn : GoodIn wsX6_lay (wsV RX6 94 RX6 yX6_countsOn wsX6_countsOn) := goodIn_app (goodIn_of _ (by decide +kernel)) ggX6_lay_X6_countsOn
set_option maxRecDepth 20000 in
theorem ggX6_lay_X6_areSame : GoodIn wsX6_lay wsX6_areSame := goodIn_r _ [15, 16, 17, 18, 19, 20, 6, 21, 26, 27, 28, 29, 30, 31, 32, 33, 34, 35, 36, 37, 38, 39, 40, 41, 42, 43, 44, 45, 46, 47, 48] (by decide +kernel) (by decide +kernel)
set_option maxRecDepth 20000 in
theorem gX6_lay_X6_areSame : GoodIn wsX6_lay (wsV RX6 101 RX6 yX6_areSame wsX6_areSame) := goodIn_app (goodIn_of _ (by decide +kernel)) ggX6_lay_X6_areSame
set_option maxRecDepth 20000 in
theorem ggX6_lay_X6_join : GoodIn wsX6_lay wsX6_join := goodIn_r _ [25, 1, 2, 26, 27, 28, 29, 30, 31, 32, 33, 34, 35, 36, 37, 38, 39, 40, 41, 42, 43, 44, 45, 46, 47, 48] (by decide +kernel) (by decide +kernel)
set_option maxRecDepth 20000 in
theorem gX6_lay_X6_join : GoodIn wsX6_lay (wsV RX6 104 RX6 yX6_join wsX6_join) := goodIn_app (goodIn_of _ (by decide +kernel)) ggX6_lay_X6_join
theorem dX6_lay_0 : decode cX6_lay 0 = .ok (.iconst 0, 1) := by decide +kernel
theorem dX6_lay_1 : decode cX6_lay 1 = .ok (.istore_n 2, 1) := by decide +kernel
theorem dX6_lay_2 : decode cX6_lay 2 = .ok (.iload_n 2, 1) := by decide +kernel
theorem dX6_lay_3 : decode cX6_lay 3 = .ok (.aload_n 0, 1) := by decide +kernel
theorem dX6_lay_4 : decode cX6_lay 4 = .ok (.getfield 70, 3) := by decide +kernel
theorem dX6_lay_7 : decode cX6_lay 7 = .ok (.if_icmp .ge 29, 3) := by decide +kernel
theorem dX6_lay_10 : decode cX6_lay 10 = .ok (.aload_n 0, 1) := by decide +kernel
theorem dX6_lay_11 : decode cX6_lay 11 = .ok (.getfield 57, 3) := by decide +kernel
theorem dX6_lay_14 : decode cX6_lay 14 = .ok (.iload_n 2, 1) := by decide +kernel
theorem dX6_lay_15 : decode cX6_lay 15 = .ok (.aload_n 0, 1) := by decide +kernel
theorem dX6_lay_16 : decode cX6_lay 16 = .ok (.iload_n 2, 1) := by decide +kernel
theorem dX6_lay_17 : decode cX6_lay 17 = .ok (.iload_n 1, 1) := by decide +kernel
theorem dX6_lay_18 : decode cX6_lay 18 = .ok (.invokevirtual 94, 3) := by decide +kernel
theorem dX6_lay_21 : decode cX6_lay 21 = .ok (.ifCond .eq 7, 3) := by decide +kernel
theorem dX6_lay_24 : decode cX6_lay 24 = .ok (.iload_n 2, 1) := by decide +kernel
theorem dX6_lay_25 : decode cX6_lay 25 = .ok (.goto 4, 3) := by decide +kernel
theorem dX6_lay_28 : decode cX6_lay 28 = .ok (.iconst (-1), 1) := by decide +kernel
theorem dX6_lay_29 : decode cX6_lay 29 = .ok (.iastore, 1) := by decide +kernel
theorem dX6_lay_30 : decode cX6_lay 30 = .ok (.iinc 2 1, 3) := by decide +kernel
theorem dX6_lay_33 : decode cX6_lay 33 = .ok (.goto (-31), 3) := by decide +kernel
theorem dX6_lay_36 : decode cX6_lay 36 = .ok (.iconst 0, 1) := by decide +kernel
theorem dX6_lay_37 : decode cX6_lay 37 = .ok (.istore_n 2, 1) := by decide +kernel
theorem dX6_lay_38 : decode cX6_lay 38 = .ok (.iload_n 2, 1) := by decide +kernel
theorem dX6_lay_39 : decode cX6_lay 39 = .ok (.aload_n 0, 1) := by decide +kernel
theorem dX6_lay_40 : decode cX6_lay 40 = .ok (.getfield 70, 3) := by decide +kernel
theorem dX6_lay_43 : decode cX6_lay 43 = .ok (.if_icmp .ge 92, 3) := by decide +kernel
theorem dX6_lay_46 : decode cX6_lay 46 = .ok (.iconst 0, 1) := by decide +kernel
theorem dX6_lay_47 : decode cX6_lay 47 = .ok (.istore_n 3, 1) := by decide +kernel
theorem dX6_lay_48 : decode cX6_lay 48 = .ok (.iload_n 3, 1) := by decide +kernel
theorem dX6_lay_49 : decode cX6_lay 49 = .ok (.iload_n 2, 1) := by decide +kernel
theorem dX6_lay_50 : decode cX6_lay 50 = .ok (.if_icmp .ge 79, 3) := by decide +kernel
theorem dX6_lay_53 : decode cX6_lay 53 = .ok (.aload_n 0, 1) := by decide +kernel
theorem dX6_lay_54 : decode cX6_lay 54 = .ok (.getfield 57, 3) := by decide +kernel
theorem dX6_lay_57 : decode cX6_lay 57 = .ok (.iload_n 2, 1) := by decide +kernel
theorem dX6_lay_58 : decode cX6_lay 58 = .ok (.iaload, 1) := by decide +kernel
theorem dX6_lay_59 : decode cX6_lay 59 = .ok (.ifCond .lt 31, 3) := by decide +kernel
theorem dX6_lay_62 : decode cX6_lay 62 = .ok (.aload_n 0, 1) := by decide +kernel
theorem dX6_lay_63 : decode cX6_lay 63 = .ok (.getfield 57, 3) := by decide +kernel
theorem dX6_lay_66 : decode cX6_lay 66 = .ok (.iload_n 3, 1) := by decide +kernel
theorem dX6_lay_67 : decode cX6_lay 67 = .ok (.iaload, 1) := by decide +kernel
theorem dX6_lay_68 : decode cX6_lay 68 = .ok (.ifCond .lt 22, 3) := by decide +kernel
theorem dX6_lay_71 : decode cX6_lay 71 = .ok (.aload_n 0, 1) := by decide +kernel
theorem dX6_lay_72 : decode cX6_lay 72 = .ok (.getfield 57, 3) := by decide +kernel
theorem dX6_lay_75 : decode cX6_lay 75 = .ok (.iload_n 2, 1) := by decide +kernel
theorem dX6_lay_76 : decode cX6_lay 76 = .ok (.iaload, 1) := by decide +kernel
theorem dX6_lay_77 : decode cX6_lay 77 = .ok (.aload_n 0, 1) := by decide +kernel
theorem dX6_lay_78 : decode cX6_lay 78 = .ok (.getfield 57, 3) := by decide +kernel
theorem dX6_lay_81 : decode cX6_lay 81 = .ok (.iload_n 3, 1) := by decide +kernel
theorem dX6_lay_82 : decode cX6_lay 82 = .ok (.iaload, 1) := by decide +kernel
theorem dX6_lay_83 : decode cX6_lay 83 = .ok (.if_icmp .eq 7, 3) := by decide +kernel
theorem dX6_lay_86 : decode cX6_lay 86 = .ok (.iconst 1, 1) := by decide +kernel
theorem dX6_lay_87 : decode cX6_lay 87 = .ok (.goto 4, 3) := by decide +kernel
theorem dX6_lay_90 : decode cX6_lay 90 = .ok (.iconst 0, 1) := by decide +kernel
theorem dX6_lay_91 : decode cX6_lay 91 = .ok (.istore 4, 2) := by decide +kernel
theorem dX6_lay_93 : decode cX6_lay 93 = .ok (.iload 4, 2) := by decide +kernel
theorem dX6_lay_95 : decode cX6_lay 95 = .ok (.ifCond .eq 28, 3) := by decide +kernel
theorem dX6_lay_98 : decode cX6_lay 98 = .ok (.aload_n 0, 1) := by decide +kernel
theorem dX6_lay_99 : decode cX6_lay 99 = .ok (.iload_n 2, 1) := by decide +kernel
theorem dX6_lay_100 : decode cX6_lay 100 = .ok (.iload_n 3, 1) := by decide +kernel
theorem dX6_lay_101 : decode cX6_lay 101 = .ok (.invokevirtual 101, 3) := by decide +kernel
theorem dX6_lay_104 : decode cX6_lay 104 = .ok (.ifCond .eq 19, 3) := by decide +kernel
theorem dX6_lay_107 : decode cX6_lay 107 = .ok (.aload_n 0, 1) := by decide +kernel
theorem dX6_lay_108 : decode cX6_lay 108 = .ok (.aload_n 0, 1) := by decide +kernel
theorem dX6_lay_109 : decode cX6_lay 109 = .ok (.getfield 57, 3) := by decide +kernel
theorem dX6_lay_112 : decode cX6_lay 112 = .ok (.iload_n 2, 1) := by decide +kernel
theorem dX6_lay_113 : decode cX6_lay 113 = .ok (.iaload, 1) := by decide +kernel
theorem dX6_lay_114 : decode cX6_lay 114 = .ok (.aload_n 0, 1) := by decide +kernel
theorem dX6_lay_115 : decode cX6_lay 115 = .ok (.getfield 57, 3) := by decide +kernel
theorem dX6_lay_118 : decode cX6_lay 118 = .ok (.iload_n 3, 1) := by decide +kernel
theorem dX6_lay_119 : decode cX6_lay 119 = .ok (.iaload, 1) := by decide +kernel
theorem dX6_lay_120 : decode cX6_lay 120 = .ok (.invokevirtual 104, 3) := by decide +kernel
theorem dX6_lay_123 : decode cX6_lay 123 = .ok (.iinc 3 1, 3) := by decide +kernel
theorem dX6_lay_126 : decode cX6_lay 126 = .ok (.goto (-78), 3) := by decide +kernel
theorem dX6_lay_129 : decode cX6_lay 129 = .ok (.iinc 2 1, 3) := by decide +kernel
theorem dX6_lay_132 : decode cX6_lay 132 = .ok (.goto (-94), 3) := by decide +kernel
theorem dX6_lay_135 : decode cX6_lay 135 = .ok (.return_, 1) := by decide +kernel
theorem dX6_join_0 : decode cX6_join 0 = .ok (.iload_n 1, 1) := by decide +kernel
theorem dX6_join_1 : decode cX6_join 1 = .ok (.iload_n 2, 1) := by decide +kernel
theorem dX6_join_2 : decode cX6_join 2 = .ok (.if_icmp .ge 7, 3) := by decide +kernel
theorem dX6_join_5 : decode cX6_join 5 = .ok (.iload_n 1, 1) := by decide +kernel
theorem dX6_join_6 : decode cX6_join 6 = .ok (.goto 4, 3) := by decide +kernel
theorem dX6_join_9 : decode cX6_join 9 = .ok (.iload_n 2, 1) := by decide +kernel
theorem dX6_join_10 : decode cX6_join 10 = .ok (.istore_n 3, 1) := by decide +kernel
theorem dX6_join_11 : decode cX6_join 11 = .ok (.iload_n 1, 1) := by decide +kernel
theorem dX6_join_12 : decode cX6_join 12 = .ok (.iload_n 2, 1) := by decide +kernel
theorem dX6_join_13 : decode cX6_join 13 = .ok (.if_icmp .ge 7, 3) := by decide +kernel
theorem dX6_join_16 : decode cX6_join 16 = .ok (.iload_n 2, 1) := by decide +kernel
theorem dX6_join_17 : decode cX6_join 17 = .ok (.goto 4, 3) := by decide +kernel
theorem dX6_join_20 : decode cX6_join 20 = .ok (.iload_n 1, 1) := by decide +kernel
theorem dX6_join_21 : decode cX6_join 21 = .ok (.istore 4, 2) := by decide +kernel
theorem dX6_join_23 : decode cX6_join 23 = .ok (.iconst 0, 1) := by decide +kernel
theorem dX6_join_24 : decode cX6_join 24 = .ok (.istore 5, 2) := by decide +kernel
theorem dX6_join_26 : decode cX6_join 26 = .ok (.iload 5, 2) := by decide +kernel
theorem dX6_join_28 : decode cX6_join 28 = .ok (.aload_n 0, 1) := by decide +kernel
theorem dX6_join_29 : decode cX6_join 29 = .ok (.getfield 70, 3) := by decide +kernel
theorem dX6_join_32 : decode cX6_join 32 = .ok (.if_icmp .ge 39, 3) := by decide +kernel
theorem dX6_join_35 : decode cX6_join 35 = .ok (.aload_n 0, 1) := by decide +kernel
theorem dX6_join_36 : decode cX6_join 36 = .ok (.getfield 57, 3) := by decide +kernel
theorem dX6_join_39 : decode cX6_join 39 = .ok (.iload 5, 2) := by decide +kernel
theorem dX6_join_41 : decode cX6_join 41 = .ok (.aload_n 0, 1) := by decide +kernel
theorem dX6_join_42 : decode cX6_join 42 = .ok (.getfield 57, 3) := by decide +kernel
theorem dX6_join_45 : decode cX6_join 45 = .ok (.iload 5, 2) := by decide +kernel
theorem dX6_join_47 : decode cX6_join 47 = .ok (.iaload, 1) := by decide +kernel
theorem dX6_join_48 : decode cX6_join 48 = .ok (.iload 4, 2) := by decide +kernel
theorem dX6_join_50 : decode cX6_join 50 = .ok (.if_icmp .ne 7, 3) := by decide +kernel
theorem dX6_join_53 : decode cX6_join 53 = .ok (.iload_n 3, 1) := by decide +kernel
theorem dX6_join_54 : decode cX6_join 54 = .ok (.goto 10, 3) := by decide +kernel
theorem dX6_join_57 : decode cX6_join 57 = .ok (.aload_n 0, 1) := by decide +kernel
theorem dX6_join_58 : decode cX6_join 58 = .ok (.getfield 57, 3) := by decide +kernel
theorem dX6_join_61 : decode cX6_join 61 = .ok (.iload 5, 2) := by decide +kernel
theorem dX6_join_63 : decode cX6_join 63 = .ok (.iaload, 1) := by decide +kernel
theorem dX6_join_64 : decode cX6_join 64 = .ok (.iastore, 1) := by decide +kernel
theorem dX6_join_65 : decode cX6_join 65 = .ok (.iinc 5 1, 3) := by decide +kernel
