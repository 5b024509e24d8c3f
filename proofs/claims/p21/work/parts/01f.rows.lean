theorem dL_refuses_750 : decode cL_refuses 750 = .ok (.iload 7, 2) := by decide +kernel
theorem dL_refuses_752 : decode cL_refuses 752 = .ok (.iload 8, 2) := by decide +kernel
theorem dL_refuses_754 : decode cL_refuses 754 = .ok (.iload 4, 2) := by decide +kernel
theorem dL_refuses_756 : decode cL_refuses 756 = .ok (.invokestatic 117, 3) := by decide +kernel
theorem dL_refuses_759 : decode cL_refuses 759 = .ok (.ldc 15, 2) := by decide +kernel
theorem dL_refuses_761 : decode cL_refuses 761 = .ok (.if_icmp .ne 7, 3) := by decide +kernel
theorem dL_refuses_764 : decode cL_refuses 764 = .ok (.iconst 1, 1) := by decide +kernel
theorem dL_refuses_765 : decode cL_refuses 765 = .ok (.goto 4, 3) := by decide +kernel
theorem dL_refuses_768 : decode cL_refuses 768 = .ok (.iconst 0, 1) := by decide +kernel
theorem dL_refuses_769 : decode cL_refuses 769 = .ok (.istore 6, 2) := by decide +kernel
theorem dL_refuses_771 : decode cL_refuses 771 = .ok (.aload_n 0, 1) := by decide +kernel
theorem dL_refuses_772 : decode cL_refuses 772 = .ok (.invokevirtual 133, 3) := by decide +kernel
theorem dL_refuses_775 : decode cL_refuses 775 = .ok (.istore 9, 2) := by decide +kernel
theorem dL_refuses_777 : decode cL_refuses 777 = .ok (.iload 6, 2) := by decide +kernel
theorem dL_refuses_779 : decode cL_refuses 779 = .ok (.ifCond .eq 74, 3) := by decide +kernel
theorem dL_refuses_782 : decode cL_refuses 782 = .ok (.aload_n 0, 1) := by decide +kernel
theorem dL_refuses_783 : decode cL_refuses 783 = .ok (.iload 7, 2) := by decide +kernel
theorem dL_refuses_785 : decode cL_refuses 785 = .ok (.iload 9, 2) := by decide +kernel
theorem dL_refuses_787 : decode cL_refuses 787 = .ok (.invokestatic 106, 3) := by decide +kernel
theorem dL_refuses_790 : decode cL_refuses 790 = .ok (.iconst 1, 1) := by decide +kernel
theorem dL_refuses_791 : decode cL_refuses 791 = .ok (.if_icmp .eq 58, 3) := by decide +kernel
theorem dL_refuses_794 : decode cL_refuses 794 = .ok (.aload_n 0, 1) := by decide +kernel
theorem dL_refuses_795 : decode cL_refuses 795 = .ok (.iload 7, 2) := by decide +kernel
theorem dL_refuses_797 : decode cL_refuses 797 = .ok (.iload 9, 2) := by decide +kernel
theorem dL_refuses_799 : decode cL_refuses 799 = .ok (.invokestatic 110, 3) := by decide +kernel
theorem dL_refuses_802 : decode cL_refuses 802 = .ok (.ldc 53, 2) := by decide +kernel
theorem dL_refuses_804 : decode cL_refuses 804 = .ok (.if_icmp .ne 49, 3) := by decide +kernel
theorem dL_refuses_807 : decode cL_refuses 807 = .ok (.aload_n 0, 1) := by decide +kernel
theorem dL_refuses_808 : decode cL_refuses 808 = .ok (.iload 7, 2) := by decide +kernel
theorem dL_refuses_810 : decode cL_refuses 810 = .ok (.iconst 0, 1) := by decide +kernel
theorem dL_refuses_811 : decode cL_refuses 811 = .ok (.iload 9, 2) := by decide +kernel
theorem dL_refuses_813 : decode cL_refuses 813 = .ok (.invokestatic 113, 3) := by decide +kernel
theorem dL_refuses_816 : decode cL_refuses 816 = .ok (.ldc 53, 2) := by decide +kernel
theorem dL_refuses_818 : decode cL_refuses 818 = .ok (.if_icmp .ne 35, 3) := by decide +kernel
theorem dL_refuses_821 : decode cL_refuses 821 = .ok (.aload_n 0, 1) := by decide +kernel
theorem dL_refuses_822 : decode cL_refuses 822 = .ok (.iload 7, 2) := by decide +kernel
theorem dL_refuses_824 : decode cL_refuses 824 = .ok (.iload 9, 2) := by decide +kernel
theorem dL_refuses_826 : decode cL_refuses 826 = .ok (.invokestatic 120, 3) := by decide +kernel
theorem dL_refuses_829 : decode cL_refuses 829 = .ok (.ldc 53, 2) := by decide +kernel
theorem dL_refuses_831 : decode cL_refuses 831 = .ok (.if_icmp .ne 22, 3) := by decide +kernel
theorem dL_refuses_834 : decode cL_refuses 834 = .ok (.aload_n 0, 1) := by decide +kernel
theorem dL_refuses_835 : decode cL_refuses 835 = .ok (.iload 7, 2) := by decide +kernel
theorem dL_refuses_837 : decode cL_refuses 837 = .ok (.iload 7, 2) := by decide +kernel
theorem dL_refuses_839 : decode cL_refuses 839 = .ok (.iload 9, 2) := by decide +kernel
theorem dL_refuses_841 : decode cL_refuses 841 = .ok (.invokestatic 122, 3) := by decide +kernel
theorem dL_refuses_844 : decode cL_refuses 844 = .ok (.ldc 53, 2) := by decide +kernel
theorem dL_refuses_846 : decode cL_refuses 846 = .ok (.if_icmp .ne 7, 3) := by decide +kernel
theorem dL_refuses_849 : decode cL_refuses 849 = .ok (.iconst 1, 1) := by decide +kernel
theorem dL_refuses_850 : decode cL_refuses 850 = .ok (.goto 4, 3) := by decide +kernel
theorem dL_refuses_853 : decode cL_refuses 853 = .ok (.iconst 0, 1) := by decide +kernel
theorem dL_refuses_854 : decode cL_refuses 854 = .ok (.istore 6, 2) := by decide +kernel
theorem dL_refuses_856 : decode cL_refuses 856 = .ok (.iload 6, 2) := by decide +kernel
theorem dL_refuses_858 : decode cL_refuses 858 = .ok (.ifCond .eq 29, 3) := by decide +kernel
theorem dL_refuses_861 : decode cL_refuses 861 = .ok (.aload_n 1, 1) := by decide +kernel
theorem dL_refuses_862 : decode cL_refuses 862 = .ok (.iconst 2, 1) := by decide +kernel
theorem dL_refuses_863 : decode cL_refuses 863 = .ok (.iaload, 1) := by decide +kernel
theorem dL_refuses_864 : decode cL_refuses 864 = .ok (.ifCond .eq 19, 3) := by decide +kernel
theorem dL_refuses_867 : decode cL_refuses 867 = .ok (.aload_n 0, 1) := by decide +kernel
theorem dL_refuses_868 : decode cL_refuses 868 = .ok (.iload_n 2, 1) := by decide +kernel
theorem dL_refuses_869 : decode cL_refuses 869 = .ok (.aload_n 1, 1) := by decide +kernel
theorem dL_refuses_870 : decode cL_refuses 870 = .ok (.iconst 2, 1) := by decide +kernel
theorem dL_refuses_871 : decode cL_refuses 871 = .ok (.iaload, 1) := by decide +kernel
theorem dL_refuses_872 : decode cL_refuses 872 = .ok (.irem, 1) := by decide +kernel
theorem dL_refuses_873 : decode cL_refuses 873 = .ok (.iload 5, 2) := by decide +kernel
theorem dL_refuses_875 : decode cL_refuses 875 = .ok (.invokestatic 129, 3) := by decide +kernel
theorem dL_refuses_878 : decode cL_refuses 878 = .ok (.ldc 15, 2) := by decide +kernel
theorem dL_refuses_880 : decode cL_refuses 880 = .ok (.if_icmp .ne 7, 3) := by decide +kernel
theorem dL_refuses_883 : decode cL_refuses 883 = .ok (.iconst 1, 1) := by decide +kernel
theorem dL_refuses_884 : decode cL_refuses 884 = .ok (.goto 4, 3) := by decide +kernel
theorem dL_refuses_887 : decode cL_refuses 887 = .ok (.iconst 0, 1) := by decide +kernel
theorem dL_refuses_888 : decode cL_refuses 888 = .ok (.ireturn, 1) := by decide +kernel
set_option maxRecDepth 20000 in
theorem ggL_act_L_finds : GoodIn wsL_act wsL_finds := goodIn_ca (goodIn_ca (goodIn_r _ [4, 5, 6, 7, 8, 9, 10, 11, 12, 13, 14, 15, 16, 17, 18, 19, 20, 21, 22, 23, 24, 25, 26, 27, 28, 29, 30, 31, 32, 33, 34, 35, 36, 37, 38, 39, 40, 41, 142, 143, 144, 145, 146, 147, 148, 149, 150, 151, 152, 153, 154, 155] (by decide +kernel) (by decide +kernel)) (goodIn_sub (fun _ h => List.mem_cons_of_mem _ (List.mem_append_left _ (List.mem_append_left _ (List.mem_append_right _ h)))) (by decide +kernel))) (goodIn_sub (fun _ h => List.mem_cons_of_mem _ (List.mem_append_left _ (List.mem_append_right _ h))) (by decide +kernel))
set_option maxRecDepth 20000 in
theorem gL_act_L_finds : GoodIn wsL_act (va_wsS RL 95 yL_finds wsL_finds) := goodIn_app (goodIn_of _ (by decide +kernel)) ggL_act_L_finds
set_option maxRecDepth 20000 in
theorem ggL_act_L_passes : GoodIn wsL_act wsL_passes := goodIn_ca (goodIn_ca (goodIn_r _ [44, 5, 6, 7, 8, 45, 46, 47, 12, 48, 14, 15, 18, 19, 20, 21, 22, 23, 142, 143, 144, 145, 146, 147, 148] (by decide +kernel) (by decide +kernel)) (goodIn_sub (fun _ h => List.mem_cons_of_mem _ (List.mem_append_left _ (List.mem_append_left _ (List.mem_append_right _ h)))) (by decide +kernel))) (goodIn_sub (fun _ h => List.mem_cons_of_mem _ (List.mem_append_left _ (List.mem_append_right _ h))) (by decide +kernel))
set_option maxRecDepth 20000 in
theorem gL_act_L_passes : GoodIn wsL_act (va_wsS RL 82 yL_passes wsL_passes) := goodIn_app (goodIn_of _ (by decide +kernel)) ggL_act_L_passes
set_option maxRecDepth 20000 in
theorem ggL_act_L_terms : GoodIn wsL_act wsL_terms := goodIn_ca (goodIn_r _ [51, 5, 7, 52, 53, 54, 12, 55, 56, 57, 19, 20, 21, 22, 23, 142, 143, 144, 145, 146, 147, 148, 156, 157] (by decide +kernel) (by decide +kernel)) (goodIn_sub (fun _ h => List.mem_cons_of_mem _ (List.mem_append_left _ (List.mem_append_right _ h))) (by decide +kernel))
set_option maxRecDepth 20000 in
theorem gL_act_L_terms : GoodIn wsL_act (va_wsS RL 88 yL_terms wsL_terms) := goodIn_app (goodIn_of _ (by decide +kernel)) ggL_act_L_terms
set_option maxRecDepth 20000 in
theorem ggL_act_L_firsts : GoodIn wsL_act wsL_firsts := goodIn_ca (goodIn_r _ [60, 5, 7, 61, 62, 63, 12, 64, 56, 19, 20, 21, 22, 23, 65, 66, 67, 68, 69, 70, 142, 143, 144, 145, 146, 147, 148, 156, 157] (by decide +kernel) (by decide +kernel)) (goodIn_sub (fun _ h => List.mem_cons_of_mem _ (List.mem_append_left _ (List.mem_append_right _ h))) (by decide +kernel))
set_option maxRecDepth 20000 in
theorem gL_act_L_firsts : GoodIn wsL_act (va_wsS RL 92 yL_firsts wsL_firsts) := goodIn_app (goodIn_of _ (by decide +kernel)) ggL_act_L_firsts
set_option maxRecDepth 20000 in
theorem ggL_act_L_strikes : GoodIn wsL_act wsL_strikes := goodIn_ca (goodIn_r _ [73, 74, 75, 76, 77, 78, 12, 79, 16, 80, 81, 82, 83, 84, 85, 86, 17, 142, 143, 144, 145, 146, 147, 148, 149, 150, 151, 152, 153, 154, 155] (by decide +kernel) (by decide +kernel)) (goodIn_sub (fun _ h => List.mem_cons_of_mem _ (List.mem_append_right _ h)) (by decide +kernel))
set_option maxRecDepth 20000 in
theorem gL_act_L_strikes : GoodIn wsL_act (va_wsS RL 99 yL_strikes wsL_strikes) := goodIn_app (goodIn_of _ (by decide +kernel)) ggL_act_L_strikes
set_option maxRecDepth 20000 in
theorem ggL_act_X5_today : GoodIn wsL_act wsX5_today := goodIn_r _ [90, 18, 142, 143, 144, 145, 146, 147, 148] (by decide +kernel) (by decide +kernel)
set_option maxRecDepth 20000 in
theorem gL_act_X5_today : GoodIn wsL_act (wsV RL 133 RX5 yX5_today wsX5_today) := goodIn_app (goodIn_of _ (by decide +kernel)) ggL_act_X5_today
set_option maxRecDepth 20000 in
theorem ggL_act_L_tells : GoodIn wsL_act wsL_tells := goodIn_ca (goodIn_ca (goodIn_r _ [93, 74, 5, 75, 7, 94, 95, 96, 12, 97, 16, 98, 81, 82, 83, 84, 85, 86, 17, 99, 100, 101, 22, 23, 19, 20, 21, 142, 143, 144, 145, 146, 147, 148, 149, 150, 151, 152, 153, 154, 155] (by decide +kernel) (by decide +kernel)) (goodIn_sub (fun _ h => List.mem_cons_of_mem _ (List.mem_append_right _ h)) (by decide +kernel))) (goodIn_sub (fun _ h => List.mem_cons_of_mem _ (List.mem_append_left _ (List.mem_append_right _ h))) (by decide +kernel))
set_option maxRecDepth 20000 in
theorem gL_act_L_tells : GoodIn wsL_act (va_wsS RL 102 yL_tells wsL_tells) := goodIn_app (goodIn_of _ (by decide +kernel)) ggL_act_L_tells
set_option maxRecDepth 20000 in
theorem ggL_act_L_links : GoodIn wsL_act wsL_links := goodIn_ca (goodIn_ca (goodIn_ca (goodIn_r _ [104, 74, 5, 6, 75, 7, 8, 105, 106, 107, 12, 108, 14, 15, 109, 110, 81, 82, 83, 84, 85, 86, 16, 17, 99, 100, 101, 22, 23, 19, 20, 21, 111, 112, 113, 114, 115, 116, 117, 118, 119, 142, 143, 144, 145, 146, 147, 148, 158, 159, 160, 161, 162, 149, 150, 151, 152, 153, 154, 155] (by decide +kernel) (by decide +kernel)) (goodIn_sub (fun _ h => List.mem_cons_of_mem _ (List.mem_append_left _ (List.mem_append_left _ (List.mem_append_right _ h)))) (by decide +kernel))) (goodIn_sub (fun _ h => List.mem_cons_of_mem _ (List.mem_append_right _ h)) (by decide +kernel))) (goodIn_sub (fun _ h => List.mem_cons_of_mem _ (List.mem_append_left _ (List.mem_append_right _ h))) (by decide +kernel))
set_option maxRecDepth 20000 in
theorem gL_act_L_links : GoodIn wsL_act (va_wsS RL 117 yL_links wsL_links) := goodIn_app (goodIn_of _ (by decide +kernel)) ggL_act_L_links
set_option maxRecDepth 20000 in
theorem ggL_act_L_wishes : GoodIn wsL_act wsL_wishes := goodIn_ca (goodIn_ca (goodIn_r _ [122, 5, 6, 7, 8, 123, 124, 125, 12, 126, 14, 15, 127, 128, 19, 20, 21, 22, 23, 129, 130, 131, 132, 133, 134, 135, 136, 137, 138, 139, 140, 141, 142, 143, 144, 145, 146, 147, 148, 163, 164, 165, 166, 167] (by decide +kernel) (by decide +kernel)) (goodIn_sub (fun _ h => List.mem_cons_of_mem _ (List.mem_append_left _ (List.mem_append_left _ (List.mem_append_right _ h)))) (by decide +kernel))) (goodIn_sub (fun _ h => List.mem_cons_of_mem _ (List.mem_append_left _ (List.mem_append_right _ h))) (by decide +kernel))
set_option maxRecDepth 20000 in
theorem gL_act_L_wishes : GoodIn wsL_act (va_wsS RL 125 yL_wishes wsL_wishes) := goodIn_app (goodIn_of _ (by decide +kernel)) ggL_act_L_wishes
theorem dL_act_0 : decode cL_act 0 = .ok (.iload_n 2, 1) := by decide +kernel
theorem dL_act_1 : decode cL_act 1 = .ok (.bipush 16, 2) := by decide +kernel
theorem dL_act_3 : decode cL_act 3 = .ok (.idiv, 1) := by decide +kernel
theorem dL_act_4 : decode cL_act 4 = .ok (.istore_n 3, 1) := by decide +kernel
theorem dL_act_5 : decode cL_act 5 = .ok (.aload_n 1, 1) := by decide +kernel
theorem dL_act_6 : decode cL_act 6 = .ok (.iconst 0, 1) := by decide +kernel
theorem dL_act_7 : decode cL_act 7 = .ok (.iaload, 1) := by decide +kernel
theorem dL_act_8 : decode cL_act 8 = .ok (.ifCond .ne 7, 3) := by decide +kernel
theorem dL_act_11 : decode cL_act 11 = .ok (.iconst 0, 1) := by decide +kernel
theorem dL_act_12 : decode cL_act 12 = .ok (.goto 8, 3) := by decide +kernel
theorem dL_act_15 : decode cL_act 15 = .ok (.iload_n 3, 1) := by decide +kernel
theorem dL_act_16 : decode cL_act 16 = .ok (.aload_n 1, 1) := by decide +kernel
theorem dL_act_17 : decode cL_act 17 = .ok (.iconst 0, 1) := by decide +kernel
theorem dL_act_18 : decode cL_act 18 = .ok (.iaload, 1) := by decide +kernel
theorem dL_act_19 : decode cL_act 19 = .ok (.irem, 1) := by decide +kernel
theorem dL_act_20 : decode cL_act 20 = .ok (.istore 4, 2) := by decide +kernel
theorem dL_act_22 : decode cL_act 22 = .ok (.aload_n 1, 1) := by decide +kernel
theorem dL_act_23 : decode cL_act 23 = .ok (.iconst 0, 1) := by decide +kernel
theorem dL_act_24 : decode cL_act 24 = .ok (.iaload, 1) := by decide +kernel
theorem dL_act_25 : decode cL_act 25 = .ok (.ifCond .ne 7, 3) := by decide +kernel
theorem dL_act_28 : decode cL_act 28 = .ok (.iconst 0, 1) := by decide +kernel
theorem dL_act_29 : decode cL_act 29 = .ok (.goto 11, 3) := by decide +kernel
theorem dL_act_32 : decode cL_act 32 = .ok (.iload_n 3, 1) := by decide +kernel
theorem dL_act_33 : decode cL_act 33 = .ok (.bipush 24, 2) := by decide +kernel
theorem dL_act_35 : decode cL_act 35 = .ok (.idiv, 1) := by decide +kernel
theorem dL_act_36 : decode cL_act 36 = .ok (.aload_n 1, 1) := by decide +kernel
theorem dL_act_37 : decode cL_act 37 = .ok (.iconst 0, 1) := by decide +kernel
theorem dL_act_38 : decode cL_act 38 = .ok (.iaload, 1) := by decide +kernel
theorem dL_act_39 : decode cL_act 39 = .ok (.irem, 1) := by decide +kernel
theorem dL_act_40 : decode cL_act 40 = .ok (.istore 5, 2) := by decide +kernel
theorem dL_act_42 : decode cL_act 42 = .ok (.iload_n 2, 1) := by decide +kernel
theorem dL_act_43 : decode cL_act 43 = .ok (.bipush 16, 2) := by decide +kernel
theorem dL_act_45 : decode cL_act 45 = .ok (.irem, 1) := by decide +kernel
theorem dL_act_46 : decode cL_act 46 = .ok (.tableswitch 224 0 14 #[74, 74, 74, 74, 74, 74, 133, 133, 144, 160, 168, 192, 192, 208, 208], 74) := by decide +kernel
theorem dL_act_120 : decode cL_act 120 = .ok (.aload_n 0, 1) := by decide +kernel
theorem dL_act_121 : decode cL_act 121 = .ok (.iload_n 3, 1) := by decide +kernel
theorem dL_act_122 : decode cL_act 122 = .ok (.iconst 4, 1) := by decide +kernel
theorem dL_act_123 : decode cL_act 123 = .ok (.irem, 1) := by decide +kernel
theorem dL_act_124 : decode cL_act 124 = .ok (.iload_n 3, 1) := by decide +kernel
theorem dL_act_125 : decode cL_act 125 = .ok (.iconst 4, 1) := by decide +kernel
theorem dL_act_126 : decode cL_act 126 = .ok (.idiv, 1) := by decide +kernel
theorem dL_act_127 : decode cL_act 127 = .ok (.iconst 3, 1) := by decide +kernel
theorem dL_act_128 : decode cL_act 128 = .ok (.irem, 1) := by decide +kernel
theorem dL_act_129 : decode cL_act 129 = .ok (.ifCond .ne 14, 3) := by decide +kernel
theorem dL_act_132 : decode cL_act 132 = .ok (.iconst 1, 1) := by decide +kernel
theorem dL_act_133 : decode cL_act 133 = .ok (.iload_n 3, 1) := by decide +kernel
theorem dL_act_134 : decode cL_act 134 = .ok (.bipush 12, 2) := by decide +kernel
theorem dL_act_136 : decode cL_act 136 = .ok (.idiv, 1) := by decide +kernel
theorem dL_act_137 : decode cL_act 137 = .ok (.iconst 4, 1) := by decide +kernel
theorem dL_act_138 : decode cL_act 138 = .ok (.irem, 1) := by decide +kernel
theorem dL_act_139 : decode cL_act 139 = .ok (.iadd, 1) := by decide +kernel
theorem dL_act_140 : decode cL_act 140 = .ok (.goto 4, 3) := by decide +kernel
theorem dL_act_143 : decode cL_act 143 = .ok (.iconst 0, 1) := by decide +kernel
theorem dL_act_144 : decode cL_act 144 = .ok (.iload_n 3, 1) := by decide +kernel
theorem dL_act_145 : decode cL_act 145 = .ok (.bipush 48, 2) := by decide +kernel
theorem dL_act_147 : decode cL_act 147 = .ok (.idiv, 1) := by decide +kernel
theorem dL_act_148 : decode cL_act 148 = .ok (.iconst 4, 1) := by decide +kernel
theorem dL_act_149 : decode cL_act 149 = .ok (.irem, 1) := by decide +kernel
theorem dL_act_150 : decode cL_act 150 = .ok (.iload_n 3, 1) := by decide +kernel
theorem dL_act_151 : decode cL_act 151 = .ok (.sipush 192, 3) := by decide +kernel
theorem dL_act_154 : decode cL_act 154 = .ok (.idiv, 1) := by decide +kernel
theorem dL_act_155 : decode cL_act 155 = .ok (.iconst 3, 1) := by decide +kernel
theorem dL_act_156 : decode cL_act 156 = .ok (.irem, 1) := by decide +kernel
theorem dL_act_157 : decode cL_act 157 = .ok (.iload_n 3, 1) := by decide +kernel
theorem dL_act_158 : decode cL_act 158 = .ok (.sipush 576, 3) := by decide +kernel
theorem dL_act_161 : decode cL_act 161 = .ok (.idiv, 1) := by decide +kernel
theorem dL_act_162 : decode cL_act 162 = .ok (.iconst 5, 1) := by decide +kernel
theorem dL_act_163 : decode cL_act 163 = .ok (.irem, 1) := by decide +kernel
theorem dL_act_164 : decode cL_act 164 = .ok (.iconst 1, 1) := by decide +kernel
theorem dL_act_165 : decode cL_act 165 = .ok (.isub, 1) := by decide +kernel
theorem dL_act_166 : decode cL_act 166 = .ok (.iload_n 3, 1) := by decide +kernel
theorem dL_act_167 : decode cL_act 167 = .ok (.sipush 2880, 3) := by decide +kernel
theorem dL_act_170 : decode cL_act 170 = .ok (.idiv, 1) := by decide +kernel
theorem dL_act_171 : decode cL_act 171 = .ok (.iconst 3, 1) := by decide +kernel
theorem dL_act_172 : decode cL_act 172 = .ok (.irem, 1) := by decide +kernel
theorem dL_act_173 : decode cL_act 173 = .ok (.iconst 1, 1) := by decide +kernel
theorem dL_act_174 : decode cL_act 174 = .ok (.isub, 1) := by decide +kernel
theorem dL_act_175 : decode cL_act 175 = .ok (.invokestatic 95, 3) := by decide +kernel
theorem dL_act_178 : decode cL_act 178 = .ok (.ireturn, 1) := by decide +kernel
theorem dL_act_179 : decode cL_act 179 = .ok (.aload_n 0, 1) := by decide +kernel
theorem dL_act_180 : decode cL_act 180 = .ok (.iconst 1, 1) := by decide +kernel
theorem dL_act_181 : decode cL_act 181 = .ok (.iload_n 3, 1) := by decide +kernel
theorem dL_act_182 : decode cL_act 182 = .ok (.bipush 15, 2) := by decide +kernel
theorem dL_act_184 : decode cL_act 184 = .ok (.irem, 1) := by decide +kernel
theorem dL_act_185 : decode cL_act 185 = .ok (.iadd, 1) := by decide +kernel
theorem dL_act_186 : decode cL_act 186 = .ok (.invokestatic 82, 3) := by decide +kernel
theorem dL_act_189 : decode cL_act 189 = .ok (.ireturn, 1) := by decide +kernel
theorem dL_act_190 : decode cL_act 190 = .ok (.aload_n 0, 1) := by decide +kernel
theorem dL_act_191 : decode cL_act 191 = .ok (.iload_n 3, 1) := by decide +kernel
theorem dL_act_192 : decode cL_act 192 = .ok (.iconst 4, 1) := by decide +kernel
theorem dL_act_193 : decode cL_act 193 = .ok (.irem, 1) := by decide +kernel
theorem dL_act_194 : decode cL_act 194 = .ok (.iconst 1, 1) := by decide +kernel
theorem dL_act_195 : decode cL_act 195 = .ok (.iload_n 3, 1) := by decide +kernel
theorem dL_act_196 : decode cL_act 196 = .ok (.iconst 4, 1) := by decide +kernel
theorem dL_act_197 : decode cL_act 197 = .ok (.idiv, 1) := by decide +kernel
theorem dL_act_198 : decode cL_act 198 = .ok (.bipush 80, 2) := by decide +kernel
theorem dL_act_200 : decode cL_act 200 = .ok (.irem, 1) := by decide +kernel
theorem dL_act_201 : decode cL_act 201 = .ok (.iadd, 1) := by decide +kernel
theorem dL_act_202 : decode cL_act 202 = .ok (.invokestatic 88, 3) := by decide +kernel
theorem dL_act_205 : decode cL_act 205 = .ok (.ireturn, 1) := by decide +kernel
theorem dL_act_206 : decode cL_act 206 = .ok (.aload_n 0, 1) := by decide +kernel
theorem dL_act_207 : decode cL_act 207 = .ok (.iload_n 3, 1) := by decide +kernel
theorem dL_act_208 : decode cL_act 208 = .ok (.iconst 4, 1) := by decide +kernel
theorem dL_act_209 : decode cL_act 209 = .ok (.irem, 1) := by decide +kernel
theorem dL_act_210 : decode cL_act 210 = .ok (.invokestatic 92, 3) := by decide +kernel
theorem dL_act_213 : decode cL_act 213 = .ok (.ireturn, 1) := by decide +kernel
theorem dL_act_214 : decode cL_act 214 = .ok (.iload_n 3, 1) := by decide +kernel
theorem dL_act_215 : decode cL_act 215 = .ok (.sipush 576, 3) := by decide +kernel
theorem dL_act_218 : decode cL_act 218 = .ok (.idiv, 1) := by decide +kernel
theorem dL_act_219 : decode cL_act 219 = .ok (.iconst 3, 1) := by decide +kernel
theorem dL_act_220 : decode cL_act 220 = .ok (.irem, 1) := by decide +kernel
theorem dL_act_221 : decode cL_act 221 = .ok (.ifCond .ne 12, 3) := by decide +kernel
theorem dL_act_224 : decode cL_act 224 = .ok (.aload_n 0, 1) := by decide +kernel
theorem dL_act_225 : decode cL_act 225 = .ok (.iload 4, 2) := by decide +kernel
theorem dL_act_227 : decode cL_act 227 = .ok (.invokestatic 99, 3) := by decide +kernel
theorem dL_act_230 : decode cL_act 230 = .ok (.goto 7, 3) := by decide +kernel
theorem dL_act_233 : decode cL_act 233 = .ok (.aload_n 0, 1) := by decide +kernel
theorem dL_act_234 : decode cL_act 234 = .ok (.invokevirtual 133, 3) := by decide +kernel
theorem dL_act_237 : decode cL_act 237 = .ok (.ireturn, 1) := by decide +kernel
theorem dL_act_238 : decode cL_act 238 = .ok (.aload_n 0, 1) := by decide +kernel
theorem dL_act_239 : decode cL_act 239 = .ok (.iload 4, 2) := by decide +kernel
theorem dL_act_241 : decode cL_act 241 = .ok (.iload 5, 2) := by decide +kernel
theorem dL_act_243 : decode cL_act 243 = .ok (.iload_n 3, 1) := by decide +kernel
theorem dL_act_244 : decode cL_act 244 = .ok (.sipush 576, 3) := by decide +kernel
theorem dL_act_247 : decode cL_act 247 = .ok (.idiv, 1) := by decide +kernel
theorem dL_act_248 : decode cL_act 248 = .ok (.iconst 3, 1) := by decide +kernel
theorem dL_act_249 : decode cL_act 249 = .ok (.irem, 1) := by decide +kernel
theorem dL_act_250 : decode cL_act 250 = .ok (.invokestatic 102, 3) := by decide +kernel
theorem dL_act_253 : decode cL_act 253 = .ok (.ireturn, 1) := by decide +kernel
theorem dL_act_254 : decode cL_act 254 = .ok (.aload_n 0, 1) := by decide +kernel
theorem dL_act_255 : decode cL_act 255 = .ok (.iload 4, 2) := by decide +kernel
theorem dL_act_257 : decode cL_act 257 = .ok (.iload 5, 2) := by decide +kernel
theorem dL_act_259 : decode cL_act 259 = .ok (.iload_n 3, 1) := by decide +kernel
theorem dL_act_260 : decode cL_act 260 = .ok (.sipush 576, 3) := by decide +kernel
theorem dL_act_263 : decode cL_act 263 = .ok (.idiv, 1) := by decide +kernel
theorem dL_act_264 : decode cL_act 264 = .ok (.iconst 3, 1) := by decide +kernel
theorem dL_act_265 : decode cL_act 265 = .ok (.irem, 1) := by decide +kernel
theorem dL_act_266 : decode cL_act 266 = .ok (.invokestatic 117, 3) := by decide +kernel
theorem dL_act_269 : decode cL_act 269 = .ok (.ireturn, 1) := by decide +kernel
theorem dL_act_270 : decode cL_act 270 = .ok (.aload_n 0, 1) := by decide +kernel
theorem dL_act_271 : decode cL_act 271 = .ok (.iload_n 3, 1) := by decide +kernel
theorem dL_act_272 : decode cL_act 272 = .ok (.iconst 3, 1) := by decide +kernel
theorem dL_act_273 : decode cL_act 273 = .ok (.irem, 1) := by decide +kernel
theorem dL_act_274 : decode cL_act 274 = .ok (.iconst 1, 1) := by decide +kernel
theorem dL_act_275 : decode cL_act 275 = .ok (.iload_n 3, 1) := by decide +kernel
theorem dL_act_276 : decode cL_act 276 = .ok (.iconst 3, 1) := by decide +kernel
theorem dL_act_277 : decode cL_act 277 = .ok (.idiv, 1) := by decide +kernel
theorem dL_act_278 : decode cL_act 278 = .ok (.iconst 3, 1) := by decide +kernel
theorem dL_act_279 : decode cL_act 279 = .ok (.irem, 1) := by decide +kernel
theorem dL_act_280 : decode cL_act 280 = .ok (.iadd, 1) := by decide +kernel
theorem dL_act_281 : decode cL_act 281 = .ok (.iload_n 3, 1) := by decide +kernel
theorem dL_act_282 : decode cL_act 282 = .ok (.bipush 9, 2) := by decide +kernel
theorem dL_act_284 : decode cL_act 284 = .ok (.idiv, 1) := by decide +kernel
theorem dL_act_285 : decode cL_act 285 = .ok (.iconst 2, 1) := by decide +kernel
theorem dL_act_286 : decode cL_act 286 = .ok (.irem, 1) := by decide +kernel
theorem dL_act_287 : decode cL_act 287 = .ok (.iload_n 3, 1) := by decide +kernel
theorem dL_act_288 : decode cL_act 288 = .ok (.bipush 18, 2) := by decide +kernel
theorem dL_act_290 : decode cL_act 290 = .ok (.idiv, 1) := by decide +kernel
theorem dL_act_291 : decode cL_act 291 = .ok (.iconst 4, 1) := by decide +kernel
theorem dL_act_292 : decode cL_act 292 = .ok (.irem, 1) := by decide +kernel
theorem dL_act_293 : decode cL_act 293 = .ok (.invokestatic 125, 3) := by decide +kernel
theorem dL_act_296 : decode cL_act 296 = .ok (.ireturn, 1) := by decide +kernel
set_option maxRecDepth 20000 in
theorem ggL_alike_X5_today : GoodIn wsL_alike wsX5_today := goodIn_r _ [5, 6, 207, 208, 209, 210, 211, 212, 213] (by decide +kernel) (by decide +kernel)
set_option maxRecDepth 20000 in
theorem gL_alike_X5_today : GoodIn wsL_alike (wsV RL 133 RX5 yX5_today wsX5_today) := goodIn_app (goodIn_of _ (by decide +kernel)) ggL_alike_X5_today
set_option maxRecDepth 20000 in
theorem ggL_alike_L_things : GoodIn wsL_alike wsL_things := goodIn_ca (goodIn_r _ [10, 11, 12, 13, 14, 15, 4, 16, 17, 18, 19, 20, 21, 22, 23, 24, 25, 26, 27, 28, 29, 30, 31, 32, 33, 34, 35, 36, 37, 38, 39, 40, 41, 42, 43, 44, 45, 46, 47, 48, 49, 50, 51, 52, 53, 54, 55, 56, 57, 58, 59, 60, 61, 62, 63, 64, 65, 66, 67, 68, 69, 70, 71, 72, 73, 74, 75, 76, 77, 78, 207, 208, 209, 210, 211, 212, 213, 214, 215, 216, 217, 218, 219, 220, 221, 222, 223, 224, 225] (by decide +kernel) (by decide +kernel)) (goodIn_sub (fun _ h => List.mem_cons_of_mem _ (List.mem_append_left _ (List.mem_append_left _ (List.mem_append_right _ h)))) (by decide +kernel))
set_option maxRecDepth 20000 in
theorem gL_alike_L_things : GoodIn wsL_alike (va_wsS RL 108 yL_things wsL_things) := goodIn_app (goodIn_of _ (by decide +kernel)) ggL_alike_L_things
set_option maxRecDepth 20000 in
theorem ggL_alike_L_disputed : GoodIn wsL_alike wsL_disputed := goodIn_ca (goodIn_r _ [81, 11, 12, 82, 83, 84, 4, 85, 17, 18, 19, 86, 87, 88, 23, 24, 25, 26, 27, 20, 21, 22, 28, 29, 30, 31, 32, 33, 34, 35, 36, 37, 38, 39, 40, 41, 42, 43, 44, 45, 46, 47, 48, 49, 50, 51, 52, 53, 54, 55, 56, 57, 58, 59, 60, 61, 62, 63, 64, 65, 66, 67, 68, 69, 70, 71, 72, 73, 74, 75, 76, 77, 78, 89, 90, 91, 92, 93, 94, 95, 96, 97, 207, 208, 209, 210, 211, 212, 213, 214, 215, 216, 217, 218, 219, 220, 221, 222, 223, 224, 225] (by decide +kernel) (by decide +kernel)) (goodIn_sub (fun _ h => List.mem_cons_of_mem _ (List.mem_append_left _ (List.mem_append_left _ (List.mem_append_right _ h)))) (by decide +kernel))
set_option maxRecDepth 20000 in
theorem gL_alike_L_disputed : GoodIn wsL_alike (va_wsS RL 115 yL_disputed wsL_disputed) := goodIn_app (goodIn_of _ (by decide +kernel)) ggL_alike_L_disputed
set_option maxRecDepth 20000 in
theorem ggL_alike_L_counts : GoodIn wsL_alike wsL_counts := goodIn_ca (goodIn_ca (goodIn_r _ [100, 101, 11, 102, 12, 103, 104, 105, 4, 106, 18, 107, 108, 109, 110, 111, 112, 113, 19, 20, 21, 22, 23, 24, 25, 26, 27, 114, 38, 39, 40, 41, 42, 43, 44, 45, 207, 208, 209, 210, 211, 212, 213, 214, 215, 216, 217, 218, 219, 220, 224, 225] (by decide +kernel) (by decide +kernel)) (goodIn_sub (fun _ h => List.mem_cons_of_mem _ (List.mem_append_left _ (List.mem_append_right _ h))) (by decide +kernel))) (goodIn_sub (fun _ h => List.mem_cons_of_mem _ (List.mem_append_left _ (List.mem_append_left _ (List.mem_append_right _ h)))) (by decide +kernel))
set_option maxRecDepth 20000 in
theorem gL_alike_L_counts : GoodIn wsL_alike (va_wsS RL 106 yL_counts wsL_counts) := goodIn_app (goodIn_of _ (by decide +kernel)) ggL_alike_L_counts
set_option maxRecDepth 20000 in
theorem ggL_alike_L_thing : GoodIn wsL_alike wsL_thing := goodIn_ca (goodIn_ca (goodIn_ca (goodIn_r _ [117, 101, 11, 118, 102, 12, 119, 120, 121, 122, 4, 123, 17, 124, 108, 109, 110, 111, 112, 113, 18, 19, 20, 21, 22, 23, 24, 25, 26, 27, 28, 29, 30, 31, 32, 33, 34, 35, 36, 37, 38, 39, 40, 41, 42, 43, 44, 45, 46, 47, 48, 49, 50, 51, 52, 53, 54, 55, 56, 57, 58, 59, 60, 61, 62, 63, 64, 65, 66, 67, 68, 69, 70, 71, 72, 73, 74, 125, 126, 127, 128, 129, 130, 207, 208, 209, 210, 211, 212, 213, 221, 222, 223, 214, 215, 216, 217, 218, 219, 220, 224, 225] (by decide +kernel) (by decide +kernel)) (goodIn_sub (fun _ h => List.mem_cons_of_mem _ (List.mem_append_left _ (List.mem_append_right _ h))) (by decide +kernel))) (goodIn_sub (fun _ h => List.mem_cons_of_mem _ (List.mem_append_left _ (List.mem_append_left _ (List.mem_append_right _ h)))) (by decide +kernel))) (goodIn_sub (fun _ h => List.mem_cons_of_mem _ (List.mem_append_right _ h)) (by decide +kernel))
set_option maxRecDepth 20000 in
theorem gL_alike_L_thing : GoodIn wsL_alike (va_wsS RL 110 yL_thing wsL_thing) := goodIn_app (goodIn_of _ (by decide +kernel)) ggL_alike_L_thing
set_option maxRecDepth 20000 in
theorem ggL_alike_L_value : GoodIn wsL_alike wsL_value := goodIn_ca (goodIn_ca (goodIn_ca (goodIn_r _ [133, 101, 11, 118, 102, 12, 119, 134, 135, 136, 4, 137, 17, 124, 108, 109, 110, 111, 112, 113, 18, 19, 86, 87, 88, 23, 24, 25, 26, 27, 20, 21, 22, 28, 29, 30, 31, 32, 33, 34, 35, 36, 37, 38, 39, 40, 41, 42, 43, 44, 45, 46, 47, 48, 49, 50, 51, 52, 53, 54, 55, 56, 57, 58, 59, 60, 61, 62, 63, 64, 65, 66, 67, 68, 69, 70, 71, 72, 73, 74, 125, 126, 127, 128, 129, 130, 138, 139, 140, 141, 93, 94, 95, 96, 97, 142, 143, 144, 145, 146, 147, 207, 208, 209, 210, 211, 212, 213, 221, 222, 223, 214, 215, 216, 217, 218, 219, 220, 224, 225] (by decide +kernel) (by decide +kernel)) (goodIn_sub (fun _ h => List.mem_cons_of_mem _ (List.mem_append_left _ (List.mem_append_right _ h))) (by decide +kernel))) (goodIn_sub (fun _ h => List.mem_cons_of_mem _ (List.mem_append_left _ (List.mem_append_left _ (List.mem_append_right _ h)))) (by decide +kernel))) (goodIn_sub (fun _ h => List.mem_cons_of_mem _ (List.mem_append_right _ h)) (by decide +kernel))
set_option maxRecDepth 20000 in
theorem gL_alike_L_value : GoodIn wsL_alike (va_wsS RL 113 yL_value wsL_value) := goodIn_app (goodIn_of _ (by decide +kernel)) ggL_alike_L_value
set_option maxRecDepth 20000 in
theorem ggL_alike_L_impact : GoodIn wsL_alike wsL_impact := goodIn_ca (goodIn_ca (goodIn_ca (goodIn_r _ [150, 101, 11, 118, 102, 12, 119, 151, 152, 153, 4, 154, 17, 155, 124, 108, 109, 110, 111, 112, 113, 18, 19, 20, 21, 22, 23, 24, 25, 26, 27, 28, 29, 30, 31, 32, 33, 34, 35, 36, 37, 38, 39, 40, 41, 42, 43, 44, 45, 46, 47, 48, 49, 50, 51, 52, 53, 54, 55, 56, 57, 58, 59, 60, 61, 62, 63, 64, 65, 66, 67, 68, 69, 70, 71, 72, 73, 74, 125, 126, 127, 128, 129, 130, 156, 157, 158, 159, 160, 161, 162, 163, 164, 165, 166, 167, 168, 169, 170, 171, 172, 173, 174, 175, 176, 177, 178, 179, 180, 181, 182, 207, 208, 209, 210, 211, 212, 213, 221, 222, 223, 214, 215, 216, 217, 218, 219, 220, 224, 225, 226, 227, 228, 229, 230] (by decide +kernel) (by decide +kernel)) (goodIn_sub (fun _ h => List.mem_cons_of_mem _ (List.mem_append_left _ (List.mem_append_right _ h))) (by decide +kernel))) (goodIn_sub (fun _ h => List.mem_cons_of_mem _ (List.mem_append_left _ (List.mem_append_left _ (List.mem_append_right _ h)))) (by decide +kernel))) (goodIn_sub (fun _ h => List.mem_cons_of_mem _ (List.mem_append_right _ h)) (by decide +kernel))
set_option maxRecDepth 20000 in
theorem gL_alike_L_impact : GoodIn wsL_alike (va_wsS RL 120 yL_impact wsL_impact) := goodIn_app (goodIn_of _ (by decide +kernel)) ggL_alike_L_impact
set_option maxRecDepth 20000 in
theorem ggL_alike_L_differing : GoodIn wsL_alike wsL_differing := goodIn_ca (goodIn_ca (goodIn_r _ [185, 101, 11, 102, 12, 186, 187, 188, 4, 189, 112, 113, 190, 191, 17, 18, 19, 20, 21, 22, 23, 24, 25, 26, 27, 28, 29, 30, 31, 32, 33, 34, 35, 36, 37, 38, 39, 40, 41, 42, 43, 44, 45, 46, 47, 48, 49, 50, 51, 52, 53, 54, 55, 56, 57, 58, 59, 60, 61, 62, 63, 64, 65, 66, 67, 68, 69, 70, 71, 72, 73, 74, 75, 76, 77, 78, 192, 193, 194, 195, 196, 197, 198, 199, 200, 201, 202, 203, 204, 205, 206, 139, 140, 141, 93, 94, 95, 96, 97, 142, 143, 144, 145, 146, 147, 207, 208, 209, 210, 211, 212, 213, 231, 232, 233, 234, 235, 214, 215, 216, 217, 218, 219, 220, 221, 222, 223, 224, 225] (by decide +kernel) (by decide +kernel)) (goodIn_sub (fun _ h => List.mem_cons_of_mem _ (List.mem_append_left _ (List.mem_append_right _ h))) (by decide +kernel))) (goodIn_sub (fun _ h => List.mem_cons_of_mem _ (List.mem_append_left _ (List.mem_append_left _ (List.mem_append_right _ h)))) (by decide +kernel))
set_option maxRecDepth 20000 in
theorem gL_alike_L_differing : GoodIn wsL_alike (va_wsS RL 129 yL_differing wsL_differing) := goodIn_app (goodIn_of _ (by decide +kernel)) ggL_alike_L_differing
theorem dL_alike_0 : decode cL_alike 0 = .ok (.aload_n 0, 1) := by decide +kernel
theorem dL_alike_1 : decode cL_alike 1 = .ok (.invokevirtual 133, 3) := by decide +kernel
theorem dL_alike_4 : decode cL_alike 4 = .ok (.istore 4, 2) := by decide +kernel
theorem dL_alike_6 : decode cL_alike 6 = .ok (.aload_n 1, 1) := by decide +kernel
theorem dL_alike_7 : decode cL_alike 7 = .ok (.invokevirtual 133, 3) := by decide +kernel
theorem dL_alike_10 : decode cL_alike 10 = .ok (.iload 4, 2) := by decide +kernel
theorem dL_alike_12 : decode cL_alike 12 = .ok (.if_icmp .ne 43, 3) := by decide +kernel
theorem dL_alike_15 : decode cL_alike 15 = .ok (.aload_n 0, 1) := by decide +kernel
theorem dL_alike_16 : decode cL_alike 16 = .ok (.iload 4, 2) := by decide +kernel
theorem dL_alike_18 : decode cL_alike 18 = .ok (.invokestatic 108, 3) := by decide +kernel
theorem dL_alike_21 : decode cL_alike 21 = .ok (.aload_n 1, 1) := by decide +kernel
theorem dL_alike_22 : decode cL_alike 22 = .ok (.iload 4, 2) := by decide +kernel
theorem dL_alike_24 : decode cL_alike 24 = .ok (.invokestatic 108, 3) := by decide +kernel
theorem dL_alike_27 : decode cL_alike 27 = .ok (.if_icmp .ne 28, 3) := by decide +kernel
theorem dL_alike_30 : decode cL_alike 30 = .ok (.aload_n 0, 1) := by decide +kernel
theorem dL_alike_31 : decode cL_alike 31 = .ok (.iload_n 3, 1) := by decide +kernel
theorem dL_alike_32 : decode cL_alike 32 = .ok (.iconst 2, 1) := by decide +kernel
theorem dL_alike_33 : decode cL_alike 33 = .ok (.irem, 1) := by decide +kernel
theorem dL_alike_34 : decode cL_alike 34 = .ok (.iload 4, 2) := by decide +kernel
theorem dL_alike_36 : decode cL_alike 36 = .ok (.invokestatic 115, 3) := by decide +kernel
theorem dL_alike_39 : decode cL_alike 39 = .ok (.aload_n 1, 1) := by decide +kernel
theorem dL_alike_40 : decode cL_alike 40 = .ok (.iload_n 3, 1) := by decide +kernel
theorem dL_alike_41 : decode cL_alike 41 = .ok (.iconst 2, 1) := by decide +kernel
theorem dL_alike_42 : decode cL_alike 42 = .ok (.irem, 1) := by decide +kernel
theorem dL_alike_43 : decode cL_alike 43 = .ok (.iload 4, 2) := by decide +kernel
theorem dL_alike_45 : decode cL_alike 45 = .ok (.invokestatic 115, 3) := by decide +kernel
theorem dL_alike_48 : decode cL_alike 48 = .ok (.if_icmp .ne 7, 3) := by decide +kernel
theorem dL_alike_51 : decode cL_alike 51 = .ok (.iconst 1, 1) := by decide +kernel
theorem dL_alike_52 : decode cL_alike 52 = .ok (.goto 4, 3) := by decide +kernel
theorem dL_alike_55 : decode cL_alike 55 = .ok (.iconst 0, 1) := by decide +kernel
theorem dL_alike_56 : decode cL_alike 56 = .ok (.istore 5, 2) := by decide +kernel
theorem dL_alike_58 : decode cL_alike 58 = .ok (.iconst 0, 1) := by decide +kernel
theorem dL_alike_59 : decode cL_alike 59 = .ok (.istore 6, 2) := by decide +kernel
theorem dL_alike_61 : decode cL_alike 61 = .ok (.iload 6, 2) := by decide +kernel
theorem dL_alike_63 : decode cL_alike 63 = .ok (.aload_n 2, 1) := by decide +kernel
theorem dL_alike_64 : decode cL_alike 64 = .ok (.iconst 0, 1) := by decide +kernel
theorem dL_alike_65 : decode cL_alike 65 = .ok (.iaload, 1) := by decide +kernel
theorem dL_alike_66 : decode cL_alike 66 = .ok (.if_icmp .ge 94, 3) := by decide +kernel
theorem dL_alike_69 : decode cL_alike 69 = .ok (.iload 5, 2) := by decide +kernel
theorem dL_alike_71 : decode cL_alike 71 = .ok (.ifCond .eq 89, 3) := by decide +kernel
theorem dL_alike_74 : decode cL_alike 74 = .ok (.aload_n 0, 1) := by decide +kernel
theorem dL_alike_75 : decode cL_alike 75 = .ok (.iload 6, 2) := by decide +kernel
theorem dL_alike_77 : decode cL_alike 77 = .ok (.iload 4, 2) := by decide +kernel
theorem dL_alike_79 : decode cL_alike 79 = .ok (.invokestatic 106, 3) := by decide +kernel
theorem dL_alike_82 : decode cL_alike 82 = .ok (.aload_n 1, 1) := by decide +kernel
theorem dL_alike_83 : decode cL_alike 83 = .ok (.iload 6, 2) := by decide +kernel
theorem dL_alike_85 : decode cL_alike 85 = .ok (.iload 4, 2) := by decide +kernel
theorem dL_alike_87 : decode cL_alike 87 = .ok (.invokestatic 106, 3) := by decide +kernel
theorem dL_alike_90 : decode cL_alike 90 = .ok (.if_icmp .ne 61, 3) := by decide +kernel
theorem dL_alike_93 : decode cL_alike 93 = .ok (.iload 6, 2) := by decide +kernel
theorem dL_alike_95 : decode cL_alike 95 = .ok (.iconst 3, 1) := by decide +kernel
theorem dL_alike_96 : decode cL_alike 96 = .ok (.irem, 1) := by decide +kernel
theorem dL_alike_97 : decode cL_alike 97 = .ok (.iload_n 3, 1) := by decide +kernel
theorem dL_alike_98 : decode cL_alike 98 = .ok (.iconst 3, 1) := by decide +kernel
theorem dL_alike_99 : decode cL_alike 99 = .ok (.irem, 1) := by decide +kernel
theorem dL_alike_100 : decode cL_alike 100 = .ok (.if_icmp .ne 47, 3) := by decide +kernel
theorem dL_alike_103 : decode cL_alike 103 = .ok (.aload_n 0, 1) := by decide +kernel
theorem dL_alike_104 : decode cL_alike 104 = .ok (.iload 6, 2) := by decide +kernel
theorem dL_alike_106 : decode cL_alike 106 = .ok (.iload 4, 2) := by decide +kernel
theorem dL_alike_108 : decode cL_alike 108 = .ok (.invokestatic 110, 3) := by decide +kernel
theorem dL_alike_111 : decode cL_alike 111 = .ok (.aload_n 1, 1) := by decide +kernel
theorem dL_alike_112 : decode cL_alike 112 = .ok (.iload 6, 2) := by decide +kernel
theorem dL_alike_114 : decode cL_alike 114 = .ok (.iload 4, 2) := by decide +kernel
theorem dL_alike_116 : decode cL_alike 116 = .ok (.invokestatic 110, 3) := by decide +kernel
theorem dL_alike_119 : decode cL_alike 119 = .ok (.if_icmp .ne 32, 3) := by decide +kernel
theorem dL_alike_122 : decode cL_alike 122 = .ok (.aload_n 0, 1) := by decide +kernel
theorem dL_alike_123 : decode cL_alike 123 = .ok (.iload 6, 2) := by decide +kernel
theorem dL_alike_125 : decode cL_alike 125 = .ok (.iload_n 3, 1) := by decide +kernel
theorem dL_alike_126 : decode cL_alike 126 = .ok (.iconst 2, 1) := by decide +kernel
theorem dL_alike_127 : decode cL_alike 127 = .ok (.irem, 1) := by decide +kernel
theorem dL_alike_128 : decode cL_alike 128 = .ok (.iload 4, 2) := by decide +kernel
theorem dL_alike_130 : decode cL_alike 130 = .ok (.invokestatic 113, 3) := by decide +kernel
theorem dL_alike_133 : decode cL_alike 133 = .ok (.aload_n 1, 1) := by decide +kernel
theorem dL_alike_134 : decode cL_alike 134 = .ok (.iload 6, 2) := by decide +kernel
theorem dL_alike_136 : decode cL_alike 136 = .ok (.iload_n 3, 1) := by decide +kernel
theorem dL_alike_137 : decode cL_alike 137 = .ok (.iconst 2, 1) := by decide +kernel
theorem dL_alike_138 : decode cL_alike 138 = .ok (.irem, 1) := by decide +kernel
theorem dL_alike_139 : decode cL_alike 139 = .ok (.iload 4, 2) := by decide +kernel
theorem dL_alike_141 : decode cL_alike 141 = .ok (.invokestatic 113, 3) := by decide +kernel
theorem dL_alike_144 : decode cL_alike 144 = .ok (.if_icmp .ne 7, 3) := by decide +kernel
theorem dL_alike_147 : decode cL_alike 147 = .ok (.iconst 1, 1) := by decide +kernel
theorem dL_alike_148 : decode cL_alike 148 = .ok (.goto 4, 3) := by decide +kernel
theorem dL_alike_151 : decode cL_alike 151 = .ok (.iconst 0, 1) := by decide +kernel
theorem dL_alike_152 : decode cL_alike 152 = .ok (.istore 5, 2) := by decide +kernel
theorem dL_alike_154 : decode cL_alike 154 = .ok (.iinc 6 1, 3) := by decide +kernel
theorem dL_alike_157 : decode cL_alike 157 = .ok (.goto (-96), 3) := by decide +kernel
theorem dL_alike_160 : decode cL_alike 160 = .ok (.iload 5, 2) := by decide +kernel
theorem dL_alike_162 : decode cL_alike 162 = .ok (.ifCond .eq 69, 3) := by decide +kernel
theorem dL_alike_165 : decode cL_alike 165 = .ok (.aload_n 2, 1) := by decide +kernel
theorem dL_alike_166 : decode cL_alike 166 = .ok (.iconst 0, 1) := by decide +kernel
theorem dL_alike_167 : decode cL_alike 167 = .ok (.iaload, 1) := by decide +kernel
theorem dL_alike_168 : decode cL_alike 168 = .ok (.ifCond .eq 28, 3) := by decide +kernel
theorem dL_alike_171 : decode cL_alike 171 = .ok (.aload_n 0, 1) := by decide +kernel
theorem dL_alike_172 : decode cL_alike 172 = .ok (.iload_n 3, 1) := by decide +kernel
theorem dL_alike_173 : decode cL_alike 173 = .ok (.aload_n 2, 1) := by decide +kernel
theorem dL_alike_174 : decode cL_alike 174 = .ok (.iconst 0, 1) := by decide +kernel
theorem dL_alike_175 : decode cL_alike 175 = .ok (.iaload, 1) := by decide +kernel
theorem dL_alike_176 : decode cL_alike 176 = .ok (.irem, 1) := by decide +kernel
theorem dL_alike_177 : decode cL_alike 177 = .ok (.iload 4, 2) := by decide +kernel
theorem dL_alike_179 : decode cL_alike 179 = .ok (.invokestatic 120, 3) := by decide +kernel
theorem dL_alike_182 : decode cL_alike 182 = .ok (.aload_n 1, 1) := by decide +kernel
theorem dL_alike_183 : decode cL_alike 183 = .ok (.iload_n 3, 1) := by decide +kernel
theorem dL_alike_184 : decode cL_alike 184 = .ok (.aload_n 2, 1) := by decide +kernel
theorem dL_alike_185 : decode cL_alike 185 = .ok (.iconst 0, 1) := by decide +kernel
theorem dL_alike_186 : decode cL_alike 186 = .ok (.iaload, 1) := by decide +kernel
theorem dL_alike_187 : decode cL_alike 187 = .ok (.irem, 1) := by decide +kernel
theorem dL_alike_188 : decode cL_alike 188 = .ok (.iload 4, 2) := by decide +kernel
theorem dL_alike_190 : decode cL_alike 190 = .ok (.invokestatic 120, 3) := by decide +kernel
theorem dL_alike_193 : decode cL_alike 193 = .ok (.if_icmp .ne 38, 3) := by decide +kernel
theorem dL_alike_196 : decode cL_alike 196 = .ok (.aload_n 2, 1) := by decide +kernel
theorem dL_alike_197 : decode cL_alike 197 = .ok (.iconst 2, 1) := by decide +kernel
theorem dL_alike_198 : decode cL_alike 198 = .ok (.iaload, 1) := by decide +kernel
theorem dL_alike_199 : decode cL_alike 199 = .ok (.ifCond .eq 28, 3) := by decide +kernel
theorem dL_alike_202 : decode cL_alike 202 = .ok (.aload_n 0, 1) := by decide +kernel
theorem dL_alike_203 : decode cL_alike 203 = .ok (.iload_n 3, 1) := by decide +kernel
theorem dL_alike_204 : decode cL_alike 204 = .ok (.aload_n 2, 1) := by decide +kernel
theorem dL_alike_205 : decode cL_alike 205 = .ok (.iconst 2, 1) := by decide +kernel
theorem dL_alike_206 : decode cL_alike 206 = .ok (.iaload, 1) := by decide +kernel
theorem dL_alike_207 : decode cL_alike 207 = .ok (.irem, 1) := by decide +kernel
theorem dL_alike_208 : decode cL_alike 208 = .ok (.iload 4, 2) := by decide +kernel
theorem dL_alike_210 : decode cL_alike 210 = .ok (.invokestatic 129, 3) := by decide +kernel
theorem dL_alike_213 : decode cL_alike 213 = .ok (.aload_n 1, 1) := by decide +kernel
theorem dL_alike_214 : decode cL_alike 214 = .ok (.iload_n 3, 1) := by decide +kernel
theorem dL_alike_215 : decode cL_alike 215 = .ok (.aload_n 2, 1) := by decide +kernel
theorem dL_alike_216 : decode cL_alike 216 = .ok (.iconst 2, 1) := by decide +kernel
theorem dL_alike_217 : decode cL_alike 217 = .ok (.iaload, 1) := by decide +kernel
theorem dL_alike_218 : decode cL_alike 218 = .ok (.irem, 1) := by decide +kernel
theorem dL_alike_219 : decode cL_alike 219 = .ok (.iload 4, 2) := by decide +kernel
theorem dL_alike_221 : decode cL_alike 221 = .ok (.invokestatic 129, 3) := by decide +kernel
theorem dL_alike_224 : decode cL_alike 224 = .ok (.if_icmp .ne 7, 3) := by decide +kernel
theorem dL_alike_227 : decode cL_alike 227 = .ok (.iconst 1, 1) := by decide +kernel
theorem dL_alike_228 : decode cL_alike 228 = .ok (.goto 4, 3) := by decide +kernel
theorem dL_alike_231 : decode cL_alike 231 = .ok (.iconst 0, 1) := by decide +kernel
theorem dL_alike_232 : decode cL_alike 232 = .ok (.ireturn, 1) := by decide +kernel
set_option maxRecDepth 20000 in
theorem ggL_holds_L_thing : GoodIn wsL_holds wsL_thing := goodIn_ca (goodIn_ca (goodIn_ca (goodIn_r _ [5, 6, 7, 8, 9, 10, 1, 11, 12, 13, 14, 15, 16, 17, 18, 19, 20, 21, 22, 23, 24, 25, 26, 27, 28, 29, 30, 31, 32, 33, 34, 35, 36, 37, 38, 39, 40, 41, 42, 43, 44, 45, 46, 47, 48, 49, 50, 51, 52, 53, 54, 55, 56, 57, 58, 59, 60, 61, 62, 63, 64, 65, 66, 67, 68, 69, 70, 71, 72, 73, 74, 75, 76, 77, 78, 79, 80, 81, 82, 83, 84, 85, 86, 198, 199, 200, 201, 202, 203, 204, 205, 206, 207, 208, 209, 210, 211, 212, 213, 214, 215, 216] (by decide +kernel) (by decide +kernel)) (goodIn_sub (fun _ h => List.mem_cons_of_mem _ (List.mem_append_left _ (List.mem_append_left _ (List.mem_append_right _ h)))) (by decide +kernel))) (goodIn_sub (fun _ h => List.mem_cons_of_mem _ (List.mem_append_left _ (List.mem_append_right _ h))) (by decide +kernel))) (goodIn_sub (fun _ h => List.mem_cons_of_mem _ (List.mem_append_right _ h)) (by decide +kernel))
set_option maxRecDepth 20000 in
theorem gL_holds_L_thing : GoodIn wsL_holds (va_wsS RL 110 yL_thing wsL_thing) := goodIn_app (goodIn_of _ (by decide +kernel)) ggL_holds_L_thing
set_option maxRecDepth 20000 in
theorem ggL_holds_L_counts : GoodIn wsL_holds wsL_counts := goodIn_ca (goodIn_ca (goodIn_r _ [89, 6, 7, 9, 10, 90, 91, 92, 14, 93, 24, 94, 18, 19, 20, 21, 22, 23, 25, 26, 27, 28, 29, 30, 31, 32, 33, 95, 44, 45, 46, 47, 48, 49, 50, 51, 198, 199, 200, 201, 202, 203, 204, 208, 209, 210, 211, 212, 213, 214, 215, 216] (by decide +kernel) (by decide +kernel)) (goodIn_sub (fun _ h => List.mem_cons_of_mem _ (List.mem_append_left _ (List.mem_append_left _ (List.mem_append_right _ h)))) (by decide +kernel))) (goodIn_sub (fun _ h => List.mem_cons_of_mem _ (List.mem_append_left _ (List.mem_append_right _ h))) (by decide +kernel))
set_option maxRecDepth 20000 in
theorem gL_holds_L_counts : GoodIn wsL_holds (va_wsS RL 106 yL_counts wsL_counts) := goodIn_app (goodIn_of _ (by decide +kernel)) ggL_holds_L_counts
set_option maxRecDepth 20000 in
theorem ggL_holds_L_value : GoodIn wsL_holds wsL_value := goodIn_ca (goodIn_ca (goodIn_ca (goodIn_r _ [98, 6, 7, 8, 9, 10, 1, 99, 100, 101, 14, 102, 16, 17, 18, 19, 20, 21, 22, 23, 24, 25, 103, 104, 105, 29, 30, 31, 32, 33, 26, 27, 28, 34, 35, 36, 37, 38, 39, 40, 41, 42, 43, 44, 45, 46, 47, 48, 49, 50, 51, 52, 53, 54, 55, 56, 57, 58, 59, 60, 61, 62, 63, 64, 65, 66, 67, 68, 69, 70, 71, 72, 73, 74, 75, 76, 77, 78, 79, 80, 81, 82, 83, 84, 85, 86, 106, 107, 108, 109, 110, 111, 112, 113, 114, 115, 116, 117, 118, 119, 120, 198, 199, 200, 201, 202, 203, 204, 205, 206, 207, 208, 209, 210, 211, 212, 213, 214, 215, 216] (by decide +kernel) (by decide +kernel)) (goodIn_sub (fun _ h => List.mem_cons_of_mem _ (List.mem_append_left _ (List.mem_append_left _ (List.mem_append_right _ h)))) (by decide +kernel))) (goodIn_sub (fun _ h => List.mem_cons_of_mem _ (List.mem_append_left _ (List.mem_append_right _ h))) (by decide +kernel))) (goodIn_sub (fun _ h => List.mem_cons_of_mem _ (List.mem_append_right _ h)) (by decide +kernel))
set_option maxRecDepth 20000 in
theorem gL_holds_L_value : GoodIn wsL_holds (va_wsS RL 113 yL_value wsL_value) := goodIn_app (goodIn_of _ (by decide +kernel)) ggL_holds_L_value
set_option maxRecDepth 20000 in
theorem ggL_holds_L_things : GoodIn wsL_holds wsL_things := goodIn_ca (goodIn_r _ [123, 7, 10, 124, 125, 126, 14, 127, 16, 24, 25, 26, 27, 28, 29, 30, 31, 32, 33, 34, 35, 36, 37, 38, 39, 40, 41, 42, 43, 44, 45, 46, 47, 48, 49, 50, 51, 52, 53, 54, 55, 56, 57, 58, 59, 60, 61, 62, 63, 64, 65, 66, 67, 68, 69, 70, 71, 72, 73, 74, 75, 76, 77, 78, 79, 80, 128, 129, 130, 131, 198, 199, 200, 201, 202, 203, 204, 208, 209, 210, 211, 212, 213, 214, 205, 206, 207, 215, 216] (by decide +kernel) (by decide +kernel)) (goodIn_sub (fun _ h => List.mem_cons_of_mem _ (List.mem_append_left _ (List.mem_append_right _ h))) (by decide +kernel))
set_option maxRecDepth 20000 in
theorem gL_holds_L_things : GoodIn wsL_holds (va_wsS RL 108 yL_things wsL_things) := goodIn_app (goodIn_of _ (by decide +kernel)) ggL_holds_L_things
set_option maxRecDepth 20000 in
theorem ggL_holds_L_disputed : GoodIn wsL_holds wsL_disputed := goodIn_ca (goodIn_r _ [134, 7, 10, 135, 136, 137, 14, 138, 16, 24, 25, 103, 104, 105, 29, 30, 31, 32, 33, 26, 27, 28, 34, 35, 36, 37, 38, 39, 40, 41, 42, 43, 44, 45, 46, 47, 48, 49, 50, 51, 52, 53, 54, 55, 56, 57, 58, 59, 60, 61, 62, 63, 64, 65, 66, 67, 68, 69, 70, 71, 72, 73, 74, 75, 76, 77, 78, 79, 80, 128, 129, 130, 131, 139, 140, 141, 142, 110, 111, 112, 113, 114, 198, 199, 200, 201, 202, 203, 204, 208, 209, 210, 211, 212, 213, 214, 205, 206, 207, 215, 216] (by decide +kernel) (by decide +kernel)) (goodIn_sub (fun _ h => List.mem_cons_of_mem _ (List.mem_append_left _ (List.mem_append_right _ h))) (by decide +kernel))
set_option maxRecDepth 20000 in
theorem gL_holds_L_disputed : GoodIn wsL_holds (va_wsS RL 115 yL_disputed wsL_disputed) := goodIn_app (goodIn_of _ (by decide +kernel)) ggL_holds_L_disputed
set_option maxRecDepth 20000 in
theorem ggL_holds_L_changed : GoodIn wsL_holds wsL_changed := goodIn_ca (goodIn_r _ [145, 7, 10, 146, 147, 148, 14, 149, 16, 150, 24, 25, 103, 104, 105, 29, 30, 31, 32, 33, 26, 27, 28, 34, 35, 36, 37, 38, 39, 40, 41, 42, 43, 44, 45, 46, 47, 48, 49, 50, 51, 52, 53, 54, 55, 56, 57, 58, 59, 60, 61, 62, 63, 64, 65, 66, 67, 68, 69, 70, 71, 72, 73, 74, 75, 76, 77, 78, 79, 80, 151, 152, 153, 154, 17, 106, 107, 108, 109, 110, 111, 112, 113, 114, 115, 116, 117, 118, 119, 120, 198, 199, 200, 201, 202, 203, 204, 208, 209, 210, 211, 212, 213, 214, 205, 206, 207, 215, 216] (by decide +kernel) (by decide +kernel)) (goodIn_sub (fun _ h => List.mem_cons_of_mem _ (List.mem_append_left _ (List.mem_append_right _ h))) (by decide +kernel))
set_option maxRecDepth 20000 in
theorem gL_holds_L_changed : GoodIn wsL_holds (va_wsS RL 131 yL_changed wsL_changed) := goodIn_app (goodIn_of _ (by decide +kernel)) ggL_holds_L_changed
set_option maxRecDepth 20000 in
theorem ggL_holds_L_impact : GoodIn wsL_holds wsL_impact := goodIn_ca (goodIn_ca (goodIn_ca (goodIn_r _ [157, 6, 7, 8, 9, 10, 1, 158, 159, 160, 14, 161, 16, 162, 17, 18, 19, 20, 21, 22, 23, 24, 25, 26, 27, 28, 29, 30, 31, 32, 33, 34, 35, 36, 37, 38, 39, 40, 41, 42, 43, 44, 45, 46, 47, 48, 49, 50, 51, 52, 53, 54, 55, 56, 57, 58, 59, 60, 61, 62, 63, 64, 65, 66, 67, 68, 69, 70, 71, 72, 73, 74, 75, 76, 77, 78, 79, 80, 81, 82, 83, 84, 85, 86, 163, 164, 165, 166, 167, 168, 169, 170, 171, 172, 173, 174, 175, 176, 177, 178, 179, 180, 181, 182, 183, 184, 185, 186, 187, 188, 189, 198, 199, 200, 201, 202, 203, 204, 205, 206, 207, 208, 209, 210, 211, 212, 213, 214, 215, 216, 217, 218, 219, 220, 221] (by decide +kernel) (by decide +kernel)) (goodIn_sub (fun _ h => List.mem_cons_of_mem _ (List.mem_append_left _ (List.mem_append_left _ (List.mem_append_right _ h)))) (by decide +kernel))) (goodIn_sub (fun _ h => List.mem_cons_of_mem _ (List.mem_append_left _ (List.mem_append_right _ h))) (by decide +kernel))) (goodIn_sub (fun _ h => List.mem_cons_of_mem _ (List.mem_append_right _ h)) (by decide +kernel))
set_option maxRecDepth 20000 in
theorem gL_holds_L_impact : GoodIn wsL_holds (va_wsS RL 120 yL_impact wsL_impact) := goodIn_app (goodIn_of _ (by decide +kernel)) ggL_holds_L_impact
set_option maxRecDepth 20000 in
theorem ggL_holds_L_fails : GoodIn wsL_holds wsL_fails := goodIn_ca (goodIn_ca (goodIn_ca (goodIn_r _ [192, 6, 7, 8, 9, 10, 1, 193, 194, 195, 14, 196, 16, 162, 17, 197, 18, 19, 20, 21, 22, 23, 24, 25, 26, 27, 28, 29, 30, 31, 32, 33, 34, 35, 36, 37, 38, 39, 40, 41, 42, 43, 44, 45, 46, 47, 48, 49, 50, 51, 52, 53, 54, 55, 56, 57, 58, 59, 60, 61, 62, 63, 64, 65, 66, 67, 68, 69, 70, 71, 72, 73, 74, 75, 76, 77, 78, 79, 80, 81, 82, 83, 84, 85, 86, 163, 164, 165, 166, 167, 168, 169, 170, 171, 172, 173, 174, 175, 176, 177, 178, 179, 180, 181, 182, 183, 184, 185, 198, 199, 200, 201, 202, 203, 204, 205, 206, 207, 217, 218, 219, 220, 221, 208, 209, 210, 211, 212, 213, 214, 215, 216] (by decide +kernel) (by decide +kernel)) (goodIn_sub (fun _ h => List.mem_cons_of_mem _ (List.mem_append_left _ (List.mem_append_left _ (List.mem_append_right _ h)))) (by decide +kernel))) (goodIn_sub (fun _ h => List.mem_cons_of_mem _ (List.mem_append_left _ (List.mem_append_right _ h))) (by decide +kernel))) (goodIn_sub (fun _ h => List.mem_cons_of_mem _ (List.mem_append_right _ h)) (by decide +kernel))
set_option maxRecDepth 20000 in
theorem gL_holds_L_fails : GoodIn wsL_holds (va_wsS RL 122 yL_fails wsL_fails) := goodIn_app (goodIn_of _ (by decide +kernel)) ggL_holds_L_fails
theorem dL_holds_0 : decode cL_holds 0 = .ok (.iconst 0, 1) := by decide +kernel
theorem dL_holds_1 : decode cL_holds 1 = .ok (.istore 4, 2) := by decide +kernel
theorem dL_holds_3 : decode cL_holds 3 = .ok (.iconst 1, 1) := by decide +kernel
theorem dL_holds_4 : decode cL_holds 4 = .ok (.istore 5, 2) := by decide +kernel
theorem dL_holds_6 : decode cL_holds 6 = .ok (.iconst 0, 1) := by decide +kernel
theorem dL_holds_7 : decode cL_holds 7 = .ok (.istore 6, 2) := by decide +kernel
theorem dL_holds_9 : decode cL_holds 9 = .ok (.iload 6, 2) := by decide +kernel
theorem dL_holds_11 : decode cL_holds 11 = .ok (.aload_n 1, 1) := by decide +kernel
theorem dL_holds_12 : decode cL_holds 12 = .ok (.iconst 0, 1) := by decide +kernel
theorem dL_holds_13 : decode cL_holds 13 = .ok (.iaload, 1) := by decide +kernel
theorem dL_holds_14 : decode cL_holds 14 = .ok (.if_icmp .ge 142, 3) := by decide +kernel
theorem dL_holds_17 : decode cL_holds 17 = .ok (.iload 5, 2) := by decide +kernel
theorem dL_holds_19 : decode cL_holds 19 = .ok (.ifCond .eq 137, 3) := by decide +kernel
theorem dL_holds_22 : decode cL_holds 22 = .ok (.aload_n 0, 1) := by decide +kernel
theorem dL_holds_23 : decode cL_holds 23 = .ok (.iload 6, 2) := by decide +kernel
theorem dL_holds_25 : decode cL_holds 25 = .ok (.iload_n 2, 1) := by decide +kernel
theorem dL_holds_26 : decode cL_holds 26 = .ok (.invokestatic 110, 3) := by decide +kernel
theorem dL_holds_29 : decode cL_holds 29 = .ok (.istore 7, 2) := by decide +kernel
theorem dL_holds_31 : decode cL_holds 31 = .ok (.aload_n 0, 1) := by decide +kernel
theorem dL_holds_32 : decode cL_holds 32 = .ok (.iload 6, 2) := by decide +kernel
theorem dL_holds_34 : decode cL_holds 34 = .ok (.iload_n 2, 1) := by decide +kernel
theorem dL_holds_35 : decode cL_holds 35 = .ok (.invokestatic 106, 3) := by decide +kernel
theorem dL_holds_38 : decode cL_holds 38 = .ok (.iconst 1, 1) := by decide +kernel
theorem dL_holds_39 : decode cL_holds 39 = .ok (.if_icmp .ne 7, 3) := by decide +kernel
theorem dL_holds_42 : decode cL_holds 42 = .ok (.iconst 1, 1) := by decide +kernel
theorem dL_holds_43 : decode cL_holds 43 = .ok (.goto 4, 3) := by decide +kernel
theorem dL_holds_46 : decode cL_holds 46 = .ok (.iconst 0, 1) := by decide +kernel
theorem dL_holds_47 : decode cL_holds 47 = .ok (.istore 8, 2) := by decide +kernel
theorem dL_holds_49 : decode cL_holds 49 = .ok (.iload 4, 2) := by decide +kernel
theorem dL_holds_51 : decode cL_holds 51 = .ok (.iload 7, 2) := by decide +kernel
theorem dL_holds_53 : decode cL_holds 53 = .ok (.iload 6, 2) := by decide +kernel
theorem dL_holds_55 : decode cL_holds 55 = .ok (.if_icmp .ne 7, 3) := by decide +kernel
theorem dL_holds_58 : decode cL_holds 58 = .ok (.iconst 1, 1) := by decide +kernel
theorem dL_holds_59 : decode cL_holds 59 = .ok (.goto 4, 3) := by decide +kernel
theorem dL_holds_62 : decode cL_holds 62 = .ok (.iconst 0, 1) := by decide +kernel
theorem dL_holds_63 : decode cL_holds 63 = .ok (.iadd, 1) := by decide +kernel
theorem dL_holds_64 : decode cL_holds 64 = .ok (.istore 4, 2) := by decide +kernel
theorem dL_holds_66 : decode cL_holds 66 = .ok (.iload 7, 2) := by decide +kernel
theorem dL_holds_68 : decode cL_holds 68 = .ok (.ldc 53, 2) := by decide +kernel
theorem dL_holds_70 : decode cL_holds 70 = .ok (.if_icmp .ne 7, 3) := by decide +kernel
theorem dL_holds_73 : decode cL_holds 73 = .ok (.iconst 1, 1) := by decide +kernel
theorem dL_holds_74 : decode cL_holds 74 = .ok (.goto 4, 3) := by decide +kernel
theorem dL_holds_77 : decode cL_holds 77 = .ok (.iconst 0, 1) := by decide +kernel
theorem dL_holds_78 : decode cL_holds 78 = .ok (.iload 8, 2) := by decide +kernel
theorem dL_holds_80 : decode cL_holds 80 = .ok (.ifCond .ne 7, 3) := by decide +kernel
theorem dL_holds_83 : decode cL_holds 83 = .ok (.iconst 1, 1) := by decide +kernel
theorem dL_holds_84 : decode cL_holds 84 = .ok (.goto 4, 3) := by decide +kernel
theorem dL_holds_87 : decode cL_holds 87 = .ok (.iconst 0, 1) := by decide +kernel
theorem dL_holds_88 : decode cL_holds 88 = .ok (.if_icmp .ne 59, 3) := by decide +kernel
theorem dL_holds_91 : decode cL_holds 91 = .ok (.iload 8, 2) := by decide +kernel
theorem dL_holds_93 : decode cL_holds 93 = .ok (.ifCond .eq 50, 3) := by decide +kernel
theorem dL_holds_96 : decode cL_holds 96 = .ok (.iload 7, 2) := by decide +kernel
theorem dL_holds_98 : decode cL_holds 98 = .ok (.ifCond .lt 49, 3) := by decide +kernel
theorem dL_holds_101 : decode cL_holds 101 = .ok (.iload 7, 2) := by decide +kernel
theorem dL_holds_103 : decode cL_holds 103 = .ok (.iload 6, 2) := by decide +kernel
theorem dL_holds_105 : decode cL_holds 105 = .ok (.if_icmp .gt 42, 3) := by decide +kernel
theorem dL_holds_108 : decode cL_holds 108 = .ok (.aload_n 0, 1) := by decide +kernel
theorem dL_holds_109 : decode cL_holds 109 = .ok (.iload 7, 2) := by decide +kernel
theorem dL_holds_111 : decode cL_holds 111 = .ok (.iload_n 2, 1) := by decide +kernel
theorem dL_holds_112 : decode cL_holds 112 = .ok (.invokestatic 110, 3) := by decide +kernel
theorem dL_holds_115 : decode cL_holds 115 = .ok (.iload 7, 2) := by decide +kernel
theorem dL_holds_117 : decode cL_holds 117 = .ok (.if_icmp .ne 30, 3) := by decide +kernel
theorem dL_holds_120 : decode cL_holds 120 = .ok (.aload_n 0, 1) := by decide +kernel
theorem dL_holds_121 : decode cL_holds 121 = .ok (.iload 7, 2) := by decide +kernel
theorem dL_holds_123 : decode cL_holds 123 = .ok (.iload_n 3, 1) := by decide +kernel
theorem dL_holds_124 : decode cL_holds 124 = .ok (.iconst 2, 1) := by decide +kernel
theorem dL_holds_125 : decode cL_holds 125 = .ok (.irem, 1) := by decide +kernel
theorem dL_holds_126 : decode cL_holds 126 = .ok (.iload_n 2, 1) := by decide +kernel
theorem dL_holds_127 : decode cL_holds 127 = .ok (.invokestatic 113, 3) := by decide +kernel
theorem dL_holds_130 : decode cL_holds 130 = .ok (.aload_n 0, 1) := by decide +kernel
theorem dL_holds_131 : decode cL_holds 131 = .ok (.iload 6, 2) := by decide +kernel
theorem dL_holds_133 : decode cL_holds 133 = .ok (.iload_n 3, 1) := by decide +kernel
theorem dL_holds_134 : decode cL_holds 134 = .ok (.iconst 2, 1) := by decide +kernel
theorem dL_holds_135 : decode cL_holds 135 = .ok (.irem, 1) := by decide +kernel
theorem dL_holds_136 : decode cL_holds 136 = .ok (.iload_n 2, 1) := by decide +kernel
theorem dL_holds_137 : decode cL_holds 137 = .ok (.invokestatic 113, 3) := by decide +kernel
theorem dL_holds_140 : decode cL_holds 140 = .ok (.if_icmp .ne 7, 3) := by decide +kernel
theorem dL_holds_143 : decode cL_holds 143 = .ok (.iconst 1, 1) := by decide +kernel
theorem dL_holds_144 : decode cL_holds 144 = .ok (.goto 4, 3) := by decide +kernel
theorem dL_holds_147 : decode cL_holds 147 = .ok (.iconst 0, 1) := by decide +kernel
theorem dL_holds_148 : decode cL_holds 148 = .ok (.istore 5, 2) := by decide +kernel
theorem dL_holds_150 : decode cL_holds 150 = .ok (.iinc 6 1, 3) := by decide +kernel
theorem dL_holds_153 : decode cL_holds 153 = .ok (.goto (-144), 3) := by decide +kernel
theorem dL_holds_156 : decode cL_holds 156 = .ok (.iload 5, 2) := by decide +kernel
theorem dL_holds_158 : decode cL_holds 158 = .ok (.ifCond .eq 40, 3) := by decide +kernel
theorem dL_holds_161 : decode cL_holds 161 = .ok (.iload 4, 2) := by decide +kernel
theorem dL_holds_163 : decode cL_holds 163 = .ok (.aload_n 0, 1) := by decide +kernel
theorem dL_holds_164 : decode cL_holds 164 = .ok (.iload_n 2, 1) := by decide +kernel
theorem dL_holds_165 : decode cL_holds 165 = .ok (.invokestatic 108, 3) := by decide +kernel
theorem dL_holds_168 : decode cL_holds 168 = .ok (.if_icmp .ne 30, 3) := by decide +kernel
theorem dL_holds_171 : decode cL_holds 171 = .ok (.aload_n 0, 1) := by decide +kernel
theorem dL_holds_172 : decode cL_holds 172 = .ok (.iconst 0, 1) := by decide +kernel
theorem dL_holds_173 : decode cL_holds 173 = .ok (.iload_n 2, 1) := by decide +kernel
theorem dL_holds_174 : decode cL_holds 174 = .ok (.invokestatic 115, 3) := by decide +kernel
theorem dL_holds_177 : decode cL_holds 177 = .ok (.iload 4, 2) := by decide +kernel
theorem dL_holds_179 : decode cL_holds 179 = .ok (.if_icmp .gt 19, 3) := by decide +kernel
theorem dL_holds_182 : decode cL_holds 182 = .ok (.aload_n 0, 1) := by decide +kernel
theorem dL_holds_183 : decode cL_holds 183 = .ok (.iload_n 3, 1) := by decide +kernel
theorem dL_holds_184 : decode cL_holds 184 = .ok (.iconst 2, 1) := by decide +kernel
theorem dL_holds_185 : decode cL_holds 185 = .ok (.irem, 1) := by decide +kernel
theorem dL_holds_186 : decode cL_holds 186 = .ok (.iload_n 2, 1) := by decide +kernel
theorem dL_holds_187 : decode cL_holds 187 = .ok (.iload_n 2, 1) := by decide +kernel
theorem dL_holds_188 : decode cL_holds 188 = .ok (.invokestatic 131, 3) := by decide +kernel
theorem dL_holds_191 : decode cL_holds 191 = .ok (.ifCond .ne 7, 3) := by decide +kernel
theorem dL_holds_194 : decode cL_holds 194 = .ok (.iconst 1, 1) := by decide +kernel
theorem dL_holds_195 : decode cL_holds 195 = .ok (.goto 4, 3) := by decide +kernel
theorem dL_holds_198 : decode cL_holds 198 = .ok (.iconst 0, 1) := by decide +kernel
theorem dL_holds_199 : decode cL_holds 199 = .ok (.istore 5, 2) := by decide +kernel
theorem dL_holds_201 : decode cL_holds 201 = .ok (.aload_n 1, 1) := by decide +kernel
theorem dL_holds_202 : decode cL_holds 202 = .ok (.iconst 0, 1) := by decide +kernel
theorem dL_holds_203 : decode cL_holds 203 = .ok (.iaload, 1) := by decide +kernel
theorem dL_holds_204 : decode cL_holds 204 = .ok (.ifCond .ne 7, 3) := by decide +kernel
theorem dL_holds_207 : decode cL_holds 207 = .ok (.iconst 0, 1) := by decide +kernel
theorem dL_holds_208 : decode cL_holds 208 = .ok (.goto 8, 3) := by decide +kernel
theorem dL_holds_211 : decode cL_holds 211 = .ok (.iload_n 3, 1) := by decide +kernel
theorem dL_holds_212 : decode cL_holds 212 = .ok (.aload_n 1, 1) := by decide +kernel
theorem dL_holds_213 : decode cL_holds 213 = .ok (.iconst 0, 1) := by decide +kernel
theorem dL_holds_214 : decode cL_holds 214 = .ok (.iaload, 1) := by decide +kernel
theorem dL_holds_215 : decode cL_holds 215 = .ok (.irem, 1) := by decide +kernel
theorem dL_holds_216 : decode cL_holds 216 = .ok (.istore 6, 2) := by decide +kernel
theorem dL_holds_218 : decode cL_holds 218 = .ok (.iload 5, 2) := by decide +kernel
theorem dL_holds_220 : decode cL_holds 220 = .ok (.ifCond .eq 181, 3) := by decide +kernel
theorem dL_holds_223 : decode cL_holds 223 = .ok (.aload_n 1, 1) := by decide +kernel
theorem dL_holds_224 : decode cL_holds 224 = .ok (.iconst 0, 1) := by decide +kernel
theorem dL_holds_225 : decode cL_holds 225 = .ok (.iaload, 1) := by decide +kernel
theorem dL_holds_226 : decode cL_holds 226 = .ok (.ifCond .le 175, 3) := by decide +kernel
theorem dL_holds_229 : decode cL_holds 229 = .ok (.aload_n 0, 1) := by decide +kernel
theorem dL_holds_230 : decode cL_holds 230 = .ok (.iload 6, 2) := by decide +kernel
theorem dL_holds_232 : decode cL_holds 232 = .ok (.iload_n 2, 1) := by decide +kernel
theorem dL_holds_233 : decode cL_holds 233 = .ok (.invokestatic 106, 3) := by decide +kernel
theorem dL_holds_236 : decode cL_holds 236 = .ok (.iconst 1, 1) := by decide +kernel
theorem dL_holds_237 : decode cL_holds 237 = .ok (.if_icmp .ne 164, 3) := by decide +kernel
theorem dL_holds_240 : decode cL_holds 240 = .ok (.aload_n 0, 1) := by decide +kernel
theorem dL_holds_241 : decode cL_holds 241 = .ok (.iload 6, 2) := by decide +kernel
theorem dL_holds_243 : decode cL_holds 243 = .ok (.iload_n 2, 1) := by decide +kernel
theorem dL_holds_244 : decode cL_holds 244 = .ok (.invokestatic 120, 3) := by decide +kernel
theorem dL_holds_247 : decode cL_holds 247 = .ok (.istore 7, 2) := by decide +kernel
theorem dL_holds_249 : decode cL_holds 249 = .ok (.iconst 0, 1) := by decide +kernel
theorem dL_holds_250 : decode cL_holds 250 = .ok (.istore 8, 2) := by decide +kernel
theorem dL_holds_252 : decode cL_holds 252 = .ok (.iconst 0, 1) := by decide +kernel
theorem dL_holds_253 : decode cL_holds 253 = .ok (.istore 9, 2) := by decide +kernel
theorem dL_holds_255 : decode cL_holds 255 = .ok (.iload 9, 2) := by decide +kernel
theorem dL_holds_257 : decode cL_holds 257 = .ok (.aload_n 1, 1) := by decide +kernel
theorem dL_holds_258 : decode cL_holds 258 = .ok (.iconst 0, 1) := by decide +kernel
theorem dL_holds_259 : decode cL_holds 259 = .ok (.iaload, 1) := by decide +kernel
theorem dL_holds_260 : decode cL_holds 260 = .ok (.if_icmp .ge 96, 3) := by decide +kernel
theorem dL_holds_263 : decode cL_holds 263 = .ok (.iload 5, 2) := by decide +kernel
theorem dL_holds_265 : decode cL_holds 265 = .ok (.ifCond .eq 91, 3) := by decide +kernel
theorem dL_holds_268 : decode cL_holds 268 = .ok (.aload_n 0, 1) := by decide +kernel
theorem dL_holds_269 : decode cL_holds 269 = .ok (.iload 9, 2) := by decide +kernel
theorem dL_holds_271 : decode cL_holds 271 = .ok (.iload_n 2, 1) := by decide +kernel
theorem dL_holds_272 : decode cL_holds 272 = .ok (.invokestatic 106, 3) := by decide +kernel
theorem dL_holds_275 : decode cL_holds 275 = .ok (.iconst 1, 1) := by decide +kernel
theorem dL_holds_276 : decode cL_holds 276 = .ok (.if_icmp .ne 20, 3) := by decide +kernel
theorem dL_holds_279 : decode cL_holds 279 = .ok (.aload_n 0, 1) := by decide +kernel
theorem dL_holds_280 : decode cL_holds 280 = .ok (.iload 9, 2) := by decide +kernel
theorem dL_holds_282 : decode cL_holds 282 = .ok (.iload 6, 2) := by decide +kernel
theorem dL_holds_284 : decode cL_holds 284 = .ok (.iload_n 2, 1) := by decide +kernel
theorem dL_holds_285 : decode cL_holds 285 = .ok (.invokestatic 122, 3) := by decide +kernel
theorem dL_holds_288 : decode cL_holds 288 = .ok (.iconst 1, 1) := by decide +kernel
theorem dL_holds_289 : decode cL_holds 289 = .ok (.if_icmp .ne 7, 3) := by decide +kernel
theorem dL_holds_292 : decode cL_holds 292 = .ok (.iconst 1, 1) := by decide +kernel
theorem dL_holds_293 : decode cL_holds 293 = .ok (.goto 4, 3) := by decide +kernel
theorem dL_holds_296 : decode cL_holds 296 = .ok (.iconst 0, 1) := by decide +kernel
theorem dL_holds_297 : decode cL_holds 297 = .ok (.istore 10, 2) := by decide +kernel
theorem dL_holds_299 : decode cL_holds 299 = .ok (.iload 8, 2) := by decide +kernel
theorem dL_holds_301 : decode cL_holds 301 = .ok (.iload 10, 2) := by decide +kernel
theorem dL_holds_303 : decode cL_holds 303 = .ok (.ifCond .eq 19, 3) := by decide +kernel
theorem dL_holds_306 : decode cL_holds 306 = .ok (.aload_n 0, 1) := by decide +kernel
theorem dL_holds_307 : decode cL_holds 307 = .ok (.iload 9, 2) := by decide +kernel
theorem dL_holds_309 : decode cL_holds 309 = .ok (.iload_n 2, 1) := by decide +kernel
theorem dL_holds_310 : decode cL_holds 310 = .ok (.invokestatic 110, 3) := by decide +kernel
theorem dL_holds_313 : decode cL_holds 313 = .ok (.iload 9, 2) := by decide +kernel
theorem dL_holds_315 : decode cL_holds 315 = .ok (.if_icmp .ne 7, 3) := by decide +kernel
theorem dL_holds_318 : decode cL_holds 318 = .ok (.iconst 1, 1) := by decide +kernel
theorem dL_holds_319 : decode cL_holds 319 = .ok (.goto 4, 3) := by decide +kernel
theorem dL_holds_322 : decode cL_holds 322 = .ok (.iconst 0, 1) := by decide +kernel
theorem dL_holds_323 : decode cL_holds 323 = .ok (.iadd, 1) := by decide +kernel
theorem dL_holds_324 : decode cL_holds 324 = .ok (.istore 8, 2) := by decide +kernel
theorem dL_holds_326 : decode cL_holds 326 = .ok (.iload 10, 2) := by decide +kernel
theorem dL_holds_328 : decode cL_holds 328 = .ok (.ifCond .eq 15, 3) := by decide +kernel
theorem dL_holds_331 : decode cL_holds 331 = .ok (.aload_n 0, 1) := by decide +kernel
theorem dL_holds_332 : decode cL_holds 332 = .ok (.iload 9, 2) := by decide +kernel
theorem dL_holds_334 : decode cL_holds 334 = .ok (.iload_n 2, 1) := by decide +kernel
theorem dL_holds_335 : decode cL_holds 335 = .ok (.invokestatic 120, 3) := by decide +kernel
theorem dL_holds_338 : decode cL_holds 338 = .ok (.iload 7, 2) := by decide +kernel
theorem dL_holds_340 : decode cL_holds 340 = .ok (.if_icmp .gt 7, 3) := by decide +kernel
theorem dL_holds_343 : decode cL_holds 343 = .ok (.iconst 1, 1) := by decide +kernel
theorem dL_holds_344 : decode cL_holds 344 = .ok (.goto 4, 3) := by decide +kernel
theorem dL_holds_347 : decode cL_holds 347 = .ok (.iconst 0, 1) := by decide +kernel
theorem dL_holds_348 : decode cL_holds 348 = .ok (.istore 5, 2) := by decide +kernel
theorem dL_holds_350 : decode cL_holds 350 = .ok (.iinc 9 1, 3) := by decide +kernel
theorem dL_holds_353 : decode cL_holds 353 = .ok (.goto (-98), 3) := by decide +kernel
theorem dL_holds_356 : decode cL_holds 356 = .ok (.iload 5, 2) := by decide +kernel
theorem dL_holds_358 : decode cL_holds 358 = .ok (.ifCond .eq 40, 3) := by decide +kernel
theorem dL_holds_361 : decode cL_holds 361 = .ok (.iload 8, 2) := by decide +kernel
theorem dL_holds_363 : decode cL_holds 363 = .ok (.iload 7, 2) := by decide +kernel
theorem dL_holds_365 : decode cL_holds 365 = .ok (.if_icmp .ne 33, 3) := by decide +kernel
theorem dL_holds_368 : decode cL_holds 368 = .ok (.iload 7, 2) := by decide +kernel
theorem dL_holds_370 : decode cL_holds 370 = .ok (.iconst 1, 1) := by decide +kernel
theorem dL_holds_371 : decode cL_holds 371 = .ok (.if_icmp .lt 27, 3) := by decide +kernel
theorem dL_holds_374 : decode cL_holds 374 = .ok (.iload 7, 2) := by decide +kernel
theorem dL_holds_376 : decode cL_holds 376 = .ok (.iload 4, 2) := by decide +kernel
theorem dL_holds_378 : decode cL_holds 378 = .ok (.if_icmp .gt 20, 3) := by decide +kernel
theorem dL_holds_381 : decode cL_holds 381 = .ok (.aload_n 0, 1) := by decide +kernel
theorem dL_holds_382 : decode cL_holds 382 = .ok (.iload 6, 2) := by decide +kernel
theorem dL_holds_384 : decode cL_holds 384 = .ok (.iload 6, 2) := by decide +kernel
theorem dL_holds_386 : decode cL_holds 386 = .ok (.iload_n 2, 1) := by decide +kernel
theorem dL_holds_387 : decode cL_holds 387 = .ok (.invokestatic 122, 3) := by decide +kernel
theorem dL_holds_390 : decode cL_holds 390 = .ok (.iconst 1, 1) := by decide +kernel
theorem dL_holds_391 : decode cL_holds 391 = .ok (.if_icmp .ne 7, 3) := by decide +kernel
theorem dL_holds_394 : decode cL_holds 394 = .ok (.iconst 1, 1) := by decide +kernel
theorem dL_holds_395 : decode cL_holds 395 = .ok (.goto 4, 3) := by decide +kernel
theorem dL_holds_398 : decode cL_holds 398 = .ok (.iconst 0, 1) := by decide +kernel
theorem dL_holds_399 : decode cL_holds 399 = .ok (.istore 5, 2) := by decide +kernel
theorem dL_holds_401 : decode cL_holds 401 = .ok (.iload 5, 2) := by decide +kernel
theorem dL_holds_403 : decode cL_holds 403 = .ok (.ireturn, 1) := by decide +kernel
set_option maxRecDepth 20000 in
theorem ggL_parts_X5_today : GoodIn wsL_parts wsX5_today := goodIn_r _ [5, 6, 155, 156, 157, 158, 159, 160, 161] (by decide +kernel) (by decide +kernel)
set_option maxRecDepth 20000 in
theorem gL_parts_X5_today : GoodIn wsL_parts (wsV RL 133 RX5 yX5_today wsX5_today) := goodIn_app (goodIn_of _ (by decide +kernel)) ggL_parts_X5_today
set_option maxRecDepth 20000 in
theorem ggL_parts_L_things : GoodIn wsL_parts wsL_things := goodIn_ca (goodIn_r _ [10, 11, 12, 13, 14, 15, 4, 16, 17, 18, 19, 20, 21, 22, 23, 24, 25, 26, 27, 28, 29, 30, 31, 32, 33, 34, 35, 36, 37, 38, 39, 40, 41, 42, 43, 44, 45, 46, 47, 48, 49, 50, 51, 52, 53, 54, 55, 56, 57, 58, 59, 60, 61, 62, 63, 64, 65, 66, 67, 68, 69, 70, 71, 72, 73, 74, 75, 76, 77, 78, 155, 156, 157, 158, 159, 160, 161, 162, 163, 164, 165, 166, 167, 168, 169, 170, 171, 172, 173] (by decide +kernel) (by decide +kernel)) (goodIn_sub (fun _ h => List.mem_cons_of_mem _ (List.mem_append_left _ (List.mem_append_left _ (List.mem_append_left _ (List.mem_append_right _ h))))) (by decide +kernel))
set_option maxRecDepth 20000 in
theorem gL_parts_L_things : GoodIn wsL_parts (va_wsS RL 108 yL_things wsL_things) := goodIn_app (goodIn_of _ (by decide +kernel)) ggL_parts_L_things
set_option maxRecDepth 20000 in
theorem ggL_parts_L_tells : GoodIn wsL_parts wsL_tells := goodIn_ca (goodIn_ca (goodIn_r _ [81, 82, 11, 83, 12, 84, 85, 86, 4, 87, 18, 88, 89, 90, 91, 92, 93, 94, 19, 95, 96, 97, 26, 27, 23, 24, 25, 155, 156, 157, 158, 159, 160, 161, 162, 163, 164, 165, 166, 167, 168] (by decide +kernel) (by decide +kernel)) (goodIn_sub (fun _ h => List.mem_cons_of_mem _ (List.mem_append_left _ (List.mem_append_left _ (List.mem_append_right _ h)))) (by decide +kernel))) (goodIn_sub (fun _ h => List.mem_cons_of_mem _ (List.mem_append_left _ (List.mem_append_left _ (List.mem_append_left _ (List.mem_append_right _ h))))) (by decide +kernel))
set_option maxRecDepth 20000 in
theorem gL_parts_L_tells : GoodIn wsL_parts (va_wsS RL 102 yL_tells wsL_tells) := goodIn_app (goodIn_of _ (by decide +kernel)) ggL_parts_L_tells
set_option maxRecDepth 20000 in
theorem ggL_parts_L_counts : GoodIn wsL_parts wsL_counts := goodIn_ca (goodIn_ca (goodIn_r _ [100, 82, 11, 83, 12, 101, 102, 103, 4, 104, 18, 105, 89, 90, 91, 92, 93, 94, 19, 20, 21, 22, 23, 24, 25, 26, 27, 106, 38, 39, 40, 41, 42, 43, 44, 45, 155, 156, 157, 158, 159, 160, 161, 162, 163, 164, 165, 166, 167, 168, 172, 173] (by decide +kernel) (by decide +kernel)) (goodIn_sub (fun _ h => List.mem_cons_of_mem _ (List.mem_append_left _ (List.mem_append_left _ (List.mem_append_right _ h)))) (by decide +kernel))) (goodIn_sub (fun _ h => List.mem_cons_of_mem _ (List.mem_append_left _ (List.mem_append_left _ (List.mem_append_left _ (List.mem_append_right _ h))))) (by decide +kernel))
set_option maxRecDepth 20000 in
theorem gL_parts_L_counts : GoodIn wsL_parts (va_wsS RL 106 yL_counts wsL_counts) := goodIn_app (goodIn_of _ (by decide +kernel)) ggL_parts_L_counts
set_option maxRecDepth 20000 in
theorem ggL_parts_L_thing : GoodIn wsL_parts wsL_thing := goodIn_ca (goodIn_ca (goodIn_ca (goodIn_r _ [109, 82, 11, 110, 83, 12, 111, 112, 113, 114, 4, 115, 17, 116, 89, 90, 91, 92, 93, 94, 18, 19, 20, 21, 22, 23, 24, 25, 26, 27, 28, 29, 30, 31, 32, 33, 34, 35, 36, 37, 38, 39, 40, 41, 42, 43, 44, 45, 46, 47, 48, 49, 50, 51, 52, 53, 54, 55, 56, 57, 58, 59, 60, 61, 62, 63, 64, 65, 66, 67, 68, 69, 70, 71, 72, 73, 74, 117, 118, 119, 120, 121, 122, 155, 156, 157, 158, 159, 160, 161, 169, 170, 171, 162, 163, 164, 165, 166, 167, 168, 172, 173] (by decide +kernel) (by decide +kernel)) (goodIn_sub (fun _ h => List.mem_cons_of_mem _ (List.mem_append_left _ (List.mem_append_left _ (List.mem_append_right _ h)))) (by decide +kernel))) (goodIn_sub (fun _ h => List.mem_cons_of_mem _ (List.mem_append_left _ (List.mem_append_left _ (List.mem_append_left _ (List.mem_append_right _ h))))) (by decide +kernel))) (goodIn_sub (fun _ h => List.mem_cons_of_mem _ (List.mem_append_left _ (List.mem_append_right _ h))) (by decide +kernel))
set_option maxRecDepth 20000 in
theorem gL_parts_L_thing : GoodIn wsL_parts (va_wsS RL 110 yL_thing wsL_thing) := goodIn_app (goodIn_of _ (by decide +kernel)) ggL_parts_L_thing
set_option maxRecDepth 20000 in
theorem ggL_parts_L_passes : GoodIn wsL_parts wsL_passes := goodIn_ca (goodIn_ca (goodIn_r _ [125, 11, 126, 12, 127, 128, 129, 130, 4, 131, 132, 133, 6, 23, 24, 25, 26, 27, 155, 156, 157, 158, 159, 160, 161] (by decide +kernel) (by decide +kernel)) (goodIn_sub (fun _ h => List.mem_cons_of_mem _ (List.mem_append_right _ h)) (by decide +kernel))) (goodIn_sub (fun _ h => List.mem_cons_of_mem _ (List.mem_append_left _ (List.mem_append_left _ (List.mem_append_left _ (List.mem_append_right _ h))))) (by decide +kernel))
set_option maxRecDepth 20000 in
theorem gL_parts_L_passes : GoodIn wsL_parts (va_wsS RL 82 yL_passes wsL_passes) := goodIn_app (goodIn_of _ (by decide +kernel)) ggL_parts_L_passes
set_option maxRecDepth 20000 in
theorem ggL_parts_L_finds : GoodIn wsL_parts wsL_finds := goodIn_ca (goodIn_ca (goodIn_r _ [136, 11, 126, 12, 127, 137, 138, 139, 4, 140, 132, 133, 18, 19, 6, 23, 24, 25, 26, 27, 141, 142, 143, 40, 144, 145, 45, 43, 146, 147, 148, 149, 59, 150, 151, 152, 153, 154, 155, 156, 157, 158, 159, 160, 161, 162, 163, 164, 165, 166, 167, 168] (by decide +kernel) (by decide +kernel)) (goodIn_sub (fun _ h => List.mem_cons_of_mem _ (List.mem_append_right _ h)) (by decide +kernel))) (goodIn_sub (fun _ h => List.mem_cons_of_mem _ (List.mem_append_left _ (List.mem_append_left _ (List.mem_append_left _ (List.mem_append_right _ h))))) (by decide +kernel))
set_option maxRecDepth 20000 in
theorem gL_parts_L_finds : GoodIn wsL_parts (va_wsS RL 95 yL_finds wsL_finds) := goodIn_app (goodIn_of _ (by decide +kernel)) ggL_parts_L_finds
theorem dL_parts_0 : decode cL_parts 0 = .ok (.aload_n 0, 1) := by decide +kernel
theorem dL_parts_1 : decode cL_parts 1 = .ok (.invokevirtual 133, 3) := by decide +kernel
theorem dL_parts_4 : decode cL_parts 4 = .ok (.istore_n 3, 1) := by decide +kernel
theorem dL_parts_5 : decode cL_parts 5 = .ok (.iload_n 2, 1) := by decide +kernel
theorem dL_parts_6 : decode cL_parts 6 = .ok (.aload_n 1, 1) := by decide +kernel
theorem dL_parts_7 : decode cL_parts 7 = .ok (.iconst 0, 1) := by decide +kernel
theorem dL_parts_8 : decode cL_parts 8 = .ok (.iaload, 1) := by decide +kernel
theorem dL_parts_9 : decode cL_parts 9 = .ok (.irem, 1) := by decide +kernel
theorem dL_parts_10 : decode cL_parts 10 = .ok (.istore 4, 2) := by decide +kernel
theorem dL_parts_12 : decode cL_parts 12 = .ok (.iload 4, 2) := by decide +kernel
theorem dL_parts_14 : decode cL_parts 14 = .ok (.iconst 1, 1) := by decide +kernel
theorem dL_parts_15 : decode cL_parts 15 = .ok (.iadd, 1) := by decide +kernel
theorem dL_parts_16 : decode cL_parts 16 = .ok (.iload_n 2, 1) := by decide +kernel
theorem dL_parts_17 : decode cL_parts 17 = .ok (.bipush 32, 2) := by decide +kernel
theorem dL_parts_19 : decode cL_parts 19 = .ok (.idiv, 1) := by decide +kernel
theorem dL_parts_20 : decode cL_parts 20 = .ok (.aload_n 1, 1) := by decide +kernel
theorem dL_parts_21 : decode cL_parts 21 = .ok (.iconst 0, 1) := by decide +kernel
theorem dL_parts_22 : decode cL_parts 22 = .ok (.iaload, 1) := by decide +kernel
theorem dL_parts_23 : decode cL_parts 23 = .ok (.iconst 1, 1) := by decide +kernel
theorem dL_parts_24 : decode cL_parts 24 = .ok (.isub, 1) := by decide +kernel
theorem dL_parts_25 : decode cL_parts 25 = .ok (.irem, 1) := by decide +kernel
theorem dL_parts_26 : decode cL_parts 26 = .ok (.iadd, 1) := by decide +kernel
theorem dL_parts_27 : decode cL_parts 27 = .ok (.aload_n 1, 1) := by decide +kernel
theorem dL_parts_28 : decode cL_parts 28 = .ok (.iconst 0, 1) := by decide +kernel
theorem dL_parts_29 : decode cL_parts 29 = .ok (.iaload, 1) := by decide +kernel
theorem dL_parts_30 : decode cL_parts 30 = .ok (.irem, 1) := by decide +kernel
theorem dL_parts_31 : decode cL_parts 31 = .ok (.istore 5, 2) := by decide +kernel
theorem dL_parts_33 : decode cL_parts 33 = .ok (.aload_n 0, 1) := by decide +kernel
theorem dL_parts_34 : decode cL_parts 34 = .ok (.iload_n 3, 1) := by decide +kernel
theorem dL_parts_35 : decode cL_parts 35 = .ok (.invokestatic 108, 3) := by decide +kernel
theorem dL_parts_38 : decode cL_parts 38 = .ok (.istore 6, 2) := by decide +kernel
theorem dL_parts_40 : decode cL_parts 40 = .ok (.aload_n 0, 1) := by decide +kernel
theorem dL_parts_41 : decode cL_parts 41 = .ok (.iload 4, 2) := by decide +kernel
theorem dL_parts_43 : decode cL_parts 43 = .ok (.iload 5, 2) := by decide +kernel
theorem dL_parts_45 : decode cL_parts 45 = .ok (.iconst 1, 1) := by decide +kernel
theorem dL_parts_46 : decode cL_parts 46 = .ok (.invokestatic 102, 3) := by decide +kernel
theorem dL_parts_49 : decode cL_parts 49 = .ok (.istore 7, 2) := by decide +kernel
theorem dL_parts_51 : decode cL_parts 51 = .ok (.aload_n 0, 1) := by decide +kernel
theorem dL_parts_52 : decode cL_parts 52 = .ok (.iload 4, 2) := by decide +kernel
theorem dL_parts_54 : decode cL_parts 54 = .ok (.iload_n 3, 1) := by decide +kernel
theorem dL_parts_55 : decode cL_parts 55 = .ok (.invokestatic 106, 3) := by decide +kernel
theorem dL_parts_58 : decode cL_parts 58 = .ok (.iconst 1, 1) := by decide +kernel
theorem dL_parts_59 : decode cL_parts 59 = .ok (.if_icmp .ne 18, 3) := by decide +kernel
theorem dL_parts_62 : decode cL_parts 62 = .ok (.aload_n 0, 1) := by decide +kernel
theorem dL_parts_63 : decode cL_parts 63 = .ok (.iload 5, 2) := by decide +kernel
theorem dL_parts_65 : decode cL_parts 65 = .ok (.iload_n 3, 1) := by decide +kernel
theorem dL_parts_66 : decode cL_parts 66 = .ok (.invokestatic 106, 3) := by decide +kernel
theorem dL_parts_69 : decode cL_parts 69 = .ok (.iconst 1, 1) := by decide +kernel
theorem dL_parts_70 : decode cL_parts 70 = .ok (.if_icmp .ne 7, 3) := by decide +kernel
theorem dL_parts_73 : decode cL_parts 73 = .ok (.iconst 1, 1) := by decide +kernel
theorem dL_parts_74 : decode cL_parts 74 = .ok (.goto 4, 3) := by decide +kernel
theorem dL_parts_77 : decode cL_parts 77 = .ok (.iconst 0, 1) := by decide +kernel
theorem dL_parts_78 : decode cL_parts 78 = .ok (.istore 8, 2) := by decide +kernel
theorem dL_parts_80 : decode cL_parts 80 = .ok (.iload 7, 2) := by decide +kernel
theorem dL_parts_82 : decode cL_parts 82 = .ok (.ifCond .lt 80, 3) := by decide +kernel
theorem dL_parts_85 : decode cL_parts 85 = .ok (.iload 7, 2) := by decide +kernel
theorem dL_parts_87 : decode cL_parts 87 = .ok (.iconst 2, 1) := by decide +kernel
theorem dL_parts_88 : decode cL_parts 88 = .ok (.if_icmp .gt 74, 3) := by decide +kernel
theorem dL_parts_91 : decode cL_parts 91 = .ok (.iload 8, 2) := by decide +kernel
theorem dL_parts_93 : decode cL_parts 93 = .ok (.ifCond .eq 20, 3) := by decide +kernel
theorem dL_parts_96 : decode cL_parts 96 = .ok (.aload_n 0, 1) := by decide +kernel
theorem dL_parts_97 : decode cL_parts 97 = .ok (.iload 4, 2) := by decide +kernel
theorem dL_parts_99 : decode cL_parts 99 = .ok (.iload_n 3, 1) := by decide +kernel
theorem dL_parts_100 : decode cL_parts 100 = .ok (.invokestatic 110, 3) := by decide +kernel
theorem dL_parts_103 : decode cL_parts 103 = .ok (.aload_n 0, 1) := by decide +kernel
theorem dL_parts_104 : decode cL_parts 104 = .ok (.iload 5, 2) := by decide +kernel
theorem dL_parts_106 : decode cL_parts 106 = .ok (.iload_n 3, 1) := by decide +kernel
theorem dL_parts_107 : decode cL_parts 107 = .ok (.invokestatic 110, 3) := by decide +kernel
theorem dL_parts_110 : decode cL_parts 110 = .ok (.if_icmp .ne 52, 3) := by decide +kernel
theorem dL_parts_113 : decode cL_parts 113 = .ok (.aload_n 0, 1) := by decide +kernel
theorem dL_parts_114 : decode cL_parts 114 = .ok (.iload_n 3, 1) := by decide +kernel
theorem dL_parts_115 : decode cL_parts 115 = .ok (.invokestatic 108, 3) := by decide +kernel
theorem dL_parts_118 : decode cL_parts 118 = .ok (.iload 6, 2) := by decide +kernel
theorem dL_parts_120 : decode cL_parts 120 = .ok (.if_icmp .gt 42, 3) := by decide +kernel
theorem dL_parts_123 : decode cL_parts 123 = .ok (.aload_n 0, 1) := by decide +kernel
theorem dL_parts_124 : decode cL_parts 124 = .ok (.iload 5, 2) := by decide +kernel
theorem dL_parts_126 : decode cL_parts 126 = .ok (.iload 4, 2) := by decide +kernel
theorem dL_parts_128 : decode cL_parts 128 = .ok (.iconst 2, 1) := by decide +kernel
theorem dL_parts_129 : decode cL_parts 129 = .ok (.invokestatic 102, 3) := by decide +kernel
theorem dL_parts_132 : decode cL_parts 132 = .ok (.iconst 1, 1) := by decide +kernel
theorem dL_parts_133 : decode cL_parts 133 = .ok (.if_icmp .ne 29, 3) := by decide +kernel
theorem dL_parts_136 : decode cL_parts 136 = .ok (.aload_n 0, 1) := by decide +kernel
theorem dL_parts_137 : decode cL_parts 137 = .ok (.iload_n 3, 1) := by decide +kernel
theorem dL_parts_138 : decode cL_parts 138 = .ok (.invokestatic 108, 3) := by decide +kernel
theorem dL_parts_141 : decode cL_parts 141 = .ok (.ifCond .lt 21, 3) := by decide +kernel
theorem dL_parts_144 : decode cL_parts 144 = .ok (.aload_n 0, 1) := by decide +kernel
theorem dL_parts_145 : decode cL_parts 145 = .ok (.iload 4, 2) := by decide +kernel
theorem dL_parts_147 : decode cL_parts 147 = .ok (.iload 5, 2) := by decide +kernel
theorem dL_parts_149 : decode cL_parts 149 = .ok (.iload 7, 2) := by decide +kernel
theorem dL_parts_151 : decode cL_parts 151 = .ok (.invokestatic 102, 3) := by decide +kernel
theorem dL_parts_154 : decode cL_parts 154 = .ok (.iconst 2, 1) := by decide +kernel
theorem dL_parts_155 : decode cL_parts 155 = .ok (.if_icmp .ne 7, 3) := by decide +kernel
theorem dL_parts_158 : decode cL_parts 158 = .ok (.iconst 1, 1) := by decide +kernel
theorem dL_parts_159 : decode cL_parts 159 = .ok (.goto 4, 3) := by decide +kernel
theorem dL_parts_162 : decode cL_parts 162 = .ok (.iconst 0, 1) := by decide +kernel
theorem dL_parts_163 : decode cL_parts 163 = .ok (.istore 9, 2) := by decide +kernel
theorem dL_parts_165 : decode cL_parts 165 = .ok (.aload_n 0, 1) := by decide +kernel
theorem dL_parts_166 : decode cL_parts 166 = .ok (.iload_n 3, 1) := by decide +kernel
theorem dL_parts_167 : decode cL_parts 167 = .ok (.invokestatic 108, 3) := by decide +kernel
theorem dL_parts_170 : decode cL_parts 170 = .ok (.istore 10, 2) := by decide +kernel
theorem dL_parts_172 : decode cL_parts 172 = .ok (.aload_n 0, 1) := by decide +kernel
theorem dL_parts_173 : decode cL_parts 173 = .ok (.iconst 3, 1) := by decide +kernel
theorem dL_parts_174 : decode cL_parts 174 = .ok (.invokestatic 82, 3) := by decide +kernel
theorem dL_parts_177 : decode cL_parts 177 = .ok (.istore 11, 2) := by decide +kernel
theorem dL_parts_179 : decode cL_parts 179 = .ok (.aload_n 0, 1) := by decide +kernel
theorem dL_parts_180 : decode cL_parts 180 = .ok (.iload_n 3, 1) := by decide +kernel
theorem dL_parts_181 : decode cL_parts 181 = .ok (.invokestatic 108, 3) := by decide +kernel
theorem dL_parts_184 : decode cL_parts 184 = .ok (.istore 12, 2) := by decide +kernel
theorem dL_parts_186 : decode cL_parts 186 = .ok (.iload 9, 2) := by decide +kernel
theorem dL_parts_188 : decode cL_parts 188 = .ok (.ifCond .eq 89, 3) := by decide +kernel
theorem dL_parts_191 : decode cL_parts 191 = .ok (.iload 10, 2) := by decide +kernel
theorem dL_parts_193 : decode cL_parts 193 = .ok (.iload 6, 2) := by decide +kernel
theorem dL_parts_195 : decode cL_parts 195 = .ok (.if_icmp .ne 82, 3) := by decide +kernel
theorem dL_parts_198 : decode cL_parts 198 = .ok (.iload 12, 2) := by decide +kernel
theorem dL_parts_200 : decode cL_parts 200 = .ok (.iload 6, 2) := by decide +kernel
theorem dL_parts_202 : decode cL_parts 202 = .ok (.if_icmp .ne 75, 3) := by decide +kernel
theorem dL_parts_205 : decode cL_parts 205 = .ok (.iload 11, 2) := by decide +kernel
theorem dL_parts_207 : decode cL_parts 207 = .ok (.ifCond .lt 66, 3) := by decide +kernel
theorem dL_parts_210 : decode cL_parts 210 = .ok (.aload_n 1, 1) := by decide +kernel
theorem dL_parts_211 : decode cL_parts 211 = .ok (.iconst 0, 1) := by decide +kernel
theorem dL_parts_212 : decode cL_parts 212 = .ok (.iaload, 1) := by decide +kernel
theorem dL_parts_213 : decode cL_parts 213 = .ok (.bipush 60, 2) := by decide +kernel
theorem dL_parts_215 : decode cL_parts 215 = .ok (.if_icmp .eq 58, 3) := by decide +kernel
theorem dL_parts_218 : decode cL_parts 218 = .ok (.aload_n 0, 1) := by decide +kernel
theorem dL_parts_219 : decode cL_parts 219 = .ok (.iload_n 2, 1) := by decide +kernel
theorem dL_parts_220 : decode cL_parts 220 = .ok (.iconst 4, 1) := by decide +kernel
theorem dL_parts_221 : decode cL_parts 221 = .ok (.irem, 1) := by decide +kernel
theorem dL_parts_222 : decode cL_parts 222 = .ok (.bipush 98, 2) := by decide +kernel
theorem dL_parts_224 : decode cL_parts 224 = .ok (.bipush 97, 2) := by decide +kernel
theorem dL_parts_226 : decode cL_parts 226 = .ok (.bipush 96, 2) := by decide +kernel
theorem dL_parts_228 : decode cL_parts 228 = .ok (.iconst (-1), 1) := by decide +kernel
theorem dL_parts_229 : decode cL_parts 229 = .ok (.iconst (-1), 1) := by decide +kernel
theorem dL_parts_230 : decode cL_parts 230 = .ok (.invokestatic 95, 3) := by decide +kernel
theorem dL_parts_233 : decode cL_parts 233 = .ok (.aload_n 1, 1) := by decide +kernel
theorem dL_parts_234 : decode cL_parts 234 = .ok (.iconst 0, 1) := by decide +kernel
theorem dL_parts_235 : decode cL_parts 235 = .ok (.iaload, 1) := by decide +kernel
theorem dL_parts_236 : decode cL_parts 236 = .ok (.if_icmp .ne 41, 3) := by decide +kernel
theorem dL_parts_239 : decode cL_parts 239 = .ok (.aload_n 0, 1) := by decide +kernel
theorem dL_parts_240 : decode cL_parts 240 = .ok (.iload_n 3, 1) := by decide +kernel
theorem dL_parts_241 : decode cL_parts 241 = .ok (.invokestatic 108, 3) := by decide +kernel
theorem dL_parts_244 : decode cL_parts 244 = .ok (.iload 6, 2) := by decide +kernel
theorem dL_parts_246 : decode cL_parts 246 = .ok (.if_icmp .ne 31, 3) := by decide +kernel
theorem dL_parts_249 : decode cL_parts 249 = .ok (.aload_n 0, 1) := by decide +kernel
theorem dL_parts_250 : decode cL_parts 250 = .ok (.aload_n 1, 1) := by decide +kernel
theorem dL_parts_251 : decode cL_parts 251 = .ok (.iconst 0, 1) := by decide +kernel
theorem dL_parts_252 : decode cL_parts 252 = .ok (.iaload, 1) := by decide +kernel
theorem dL_parts_253 : decode cL_parts 253 = .ok (.iload_n 3, 1) := by decide +kernel
theorem dL_parts_254 : decode cL_parts 254 = .ok (.invokestatic 106, 3) := by decide +kernel
theorem dL_parts_257 : decode cL_parts 257 = .ok (.ifCond .ne 20, 3) := by decide +kernel
theorem dL_parts_260 : decode cL_parts 260 = .ok (.aload_n 0, 1) := by decide +kernel
theorem dL_parts_261 : decode cL_parts 261 = .ok (.aload_n 1, 1) := by decide +kernel
theorem dL_parts_262 : decode cL_parts 262 = .ok (.iconst 0, 1) := by decide +kernel
theorem dL_parts_263 : decode cL_parts 263 = .ok (.iaload, 1) := by decide +kernel
theorem dL_parts_264 : decode cL_parts 264 = .ok (.iload 11, 2) := by decide +kernel
theorem dL_parts_266 : decode cL_parts 266 = .ok (.invokestatic 106, 3) := by decide +kernel
theorem dL_parts_269 : decode cL_parts 269 = .ok (.iconst 1, 1) := by decide +kernel
theorem dL_parts_270 : decode cL_parts 270 = .ok (.if_icmp .ne 7, 3) := by decide +kernel
theorem dL_parts_273 : decode cL_parts 273 = .ok (.iconst 1, 1) := by decide +kernel
theorem dL_parts_274 : decode cL_parts 274 = .ok (.goto 4, 3) := by decide +kernel
theorem dL_parts_277 : decode cL_parts 277 = .ok (.iconst 0, 1) := by decide +kernel
theorem dL_parts_278 : decode cL_parts 278 = .ok (.ireturn, 1) := by decide +kernel
set_option maxRecDepth 20000 in
theorem ggL_law_X5_init : GoodIn wsL_law wsX5_init := goodIn_r _ [6, 7, 8, 9, 10, 11, 12, 13, 14, 15, 16, 17, 18, 19, 20, 21, 22, 23, 24, 25, 26, 27, 28, 29, 30, 31, 32, 33, 34, 35, 3, 36, 37, 38, 39, 40, 41, 42, 43, 44, 45, 46, 47, 48, 49, 50, 51, 52, 53, 54, 55, 56, 57, 58, 59, 60, 61, 62, 63, 64, 65, 66, 67, 68, 69, 70, 71, 72, 381, 382, 383, 384, 385, 386, 387, 388, 389, 390, 391, 392, 393, 394, 395, 396, 397, 398, 399, 400, 401, 402, 403, 404, 405, 406, 407, 408, 409] (by decide +kernel) (by decide +kernel)
set_option maxRecDepth 20000 in
theorem gL_law_X5_init : GoodIn wsL_law (wsX5_init) := ggL_law_X5_init
set_option maxRecDepth 20000 in
theorem ggL_law_L_drawn : GoodIn wsL_law wsL_drawn := goodIn_r _ [76, 77, 78] (by decide +kernel) (by decide +kernel)
set_option maxRecDepth 20000 in
theorem gL_law_L_drawn : GoodIn wsL_law (va_wsS RL 138 yL_drawn wsL_drawn) := goodIn_app (goodIn_of _ (by decide +kernel)) ggL_law_L_drawn
set_option maxRecDepth 20000 in
theorem ggL_law_L_act : GoodIn wsL_law wsL_act := goodIn_ca (goodIn_ca (goodIn_ca (goodIn_r _ [81, 82, 83, 75, 84, 85, 86, 87, 88, 89, 90, 91, 2, 92, 93, 94, 18, 95, 10, 96, 97, 98, 99, 100, 101, 102, 103, 17, 104, 41, 42, 43, 105, 106, 107, 108, 47, 109, 110, 111, 112, 48, 113, 114, 115, 116, 117, 118, 119, 120, 121, 122, 123, 124, 125, 126, 14, 127, 128, 129, 130, 131, 132, 133, 134, 135, 136, 137, 13, 138, 37, 139, 140, 141, 142, 143, 144, 145, 146, 147, 148, 149, 150, 151, 152, 153, 154, 155, 156, 157, 158, 159, 160, 161, 162, 163, 164, 165, 166, 167, 168, 169, 170, 171, 172, 173, 174, 175, 176, 22, 177, 178, 179, 180, 21, 181, 54, 53, 55, 56, 182, 183, 184, 185, 186, 187, 188, 26, 189, 190, 191, 192, 193, 194, 195, 25, 196, 61, 62, 63, 64, 65, 381, 382, 383, 384, 385, 386, 387, 390, 391, 392, 393, 394, 395, 396, 388, 389, 397, 398, 399, 400, 401, 402, 403, 404, 405, 406] (by decide +kernel) (by decide +kernel)) (goodIn_sub (fun _ h => List.mem_append_left _ (List.mem_append_left _ (List.mem_append_left _ (List.mem_append_right _ h)))) (by decide +kernel))) (goodIn_sub (fun _ h => List.mem_append_left _ (List.mem_append_left _ (List.mem_append_right _ h))) (by decide +kernel))) (goodIn_sub (fun _ h => List.mem_append_left _ (List.mem_append_right _ h)) (by decide +kernel))
set_option maxRecDepth 20000 in
theorem gL_law_L_act : GoodIn wsL_law (va_wsS RL 142 yL_act wsL_act) := goodIn_app (goodIn_of _ (by decide +kernel)) ggL_law_L_act
set_option maxRecDepth 20000 in
theorem ggL_law_L_refuses : GoodIn wsL_law wsL_refuses := goodIn_ca (goodIn_ca (goodIn_ca (goodIn_ca (goodIn_hd 199 rfl (by decide +kernel) (goodIn_r _ [87, 143, 200, 113, 114, 75, 115, 85, 86, 88, 116, 117, 118, 2, 119, 93, 94, 10, 96, 97, 98, 99, 100, 120, 121, 122, 123, 124, 125, 126, 14, 127, 128, 129, 130, 131, 132, 133, 134, 135, 136, 137, 13, 138, 37, 82, 83, 84, 89, 90, 91, 92, 18, 95, 101, 102, 103, 17, 104, 41, 42, 43, 105, 106, 107, 108, 47, 109, 110, 111, 112, 48, 139, 140, 141, 142, 144, 145, 146, 147, 148, 149, 150, 151, 152, 153, 154, 159, 160, 161, 162, 163, 164, 165, 166, 167, 168, 169, 201, 202, 203, 204, 205, 206, 207, 208, 209, 210, 211, 212, 213, 214, 45, 215, 216, 217, 218, 219, 220, 221, 222, 30, 223, 224, 225, 29, 226, 71, 227, 70, 72, 228, 229, 230, 231, 232, 233, 234, 235, 236, 49, 237, 238, 239, 240, 241, 242, 243, 244, 245, 246, 247, 248, 249, 250, 251, 252, 253, 254, 255, 256, 257, 258, 259, 260, 261, 262, 263, 264, 265, 266, 267, 268, 269, 270, 271, 272, 273, 274, 275, 276, 277, 278, 279, 280, 281, 190, 191, 192, 282, 283, 284, 285, 286, 287, 288, 289, 290, 291, 292, 293, 294, 295, 296, 297, 298, 299, 300, 301, 302, 303, 304, 305, 306, 307, 170, 171, 172, 173, 174, 175, 176, 22, 177, 178, 179, 180, 21, 181, 54, 53, 55, 56, 308, 309, 310, 311, 312, 313, 314, 315, 316, 317, 318, 57, 319, 320, 321, 322, 323, 324, 325, 326, 327, 328, 329, 330, 331, 332, 333, 334, 335, 336, 337, 338, 339, 340, 341, 342, 343, 182, 183, 184, 185, 186, 187, 188, 26, 189, 193, 194, 195, 25, 196, 61, 62, 63, 64, 65, 344, 345, 346, 347, 348, 349, 350, 351, 352, 353, 354, 355, 356, 357, 358, 359, 360, 361, 362, 363, 364, 365, 366, 367, 31, 368, 369, 370, 371, 155, 156, 157, 158, 381, 382, 383, 384, 385, 386, 387, 388, 389, 390, 391, 392, 393, 394, 395, 396, 407, 408, 409, 397, 398, 399, 400, 401, 402, 403, 404, 405, 406] (by decide +kernel) (by decide +kernel))) (goodIn_sub (fun _ h => List.mem_append_left _ (List.mem_append_left _ (List.mem_append_left _ (List.mem_append_right _ h)))) (by decide +kernel))) (goodIn_sub (fun _ h => List.mem_append_left _ (List.mem_append_left _ (List.mem_append_right _ h))) (by decide +kernel))) (goodIn_sub (fun _ h => List.mem_append_left _ (List.mem_append_right _ h)) (by decide +kernel))) (goodIn_sub (fun _ h => List.mem_append_right _ h) (by decide +kernel))
set_option maxRecDepth 20000 in
theorem gL_law_L_refuses : GoodIn wsL_law (va_wsS RL 146 yL_refuses wsL_refuses) := goodIn_app (goodIn_of _ (by decide +kernel)) ggL_law_L_refuses
set_option maxRecDepth 20000 in
theorem ggL_law_L_alike : GoodIn wsL_law wsL_alike := goodIn_ca (goodIn_ca (goodIn_ca (goodIn_r _ [374, 155, 156, 157, 2, 158, 10, 216, 217, 75, 218, 85, 87, 219, 220, 221, 222, 30, 18, 95, 208, 209, 210, 96, 97, 98, 99, 100, 223, 224, 225, 29, 226, 71, 227, 70, 72, 228, 212, 213, 17, 214, 45, 43, 215, 42, 229, 230, 231, 232, 233, 234, 235, 236, 49, 237, 238, 239, 240, 47, 241, 242, 243, 244, 245, 246, 247, 248, 249, 250, 251, 252, 253, 254, 255, 256, 257, 258, 259, 297, 298, 299, 300, 301, 302, 303, 190, 191, 192, 304, 305, 306, 307, 286, 287, 288, 289, 290, 201, 202, 203, 142, 143, 204, 205, 206, 207, 14, 149, 150, 151, 152, 153, 154, 211, 260, 261, 262, 263, 200, 264, 265, 266, 267, 268, 269, 270, 271, 272, 273, 274, 275, 276, 277, 278, 279, 280, 281, 282, 283, 284, 285, 291, 292, 293, 294, 295, 296, 308, 309, 310, 311, 312, 313, 314, 22, 315, 316, 317, 21, 318, 57, 319, 320, 321, 322, 53, 323, 54, 56, 324, 325, 326, 327, 55, 328, 329, 330, 331, 332, 333, 334, 335, 344, 345, 346, 347, 348, 349, 350, 26, 189, 351, 352, 353, 25, 354, 62, 63, 64, 65, 355, 356, 357, 358, 359, 360, 381, 382, 383, 384, 385, 386, 387, 390, 391, 392, 393, 394, 395, 396, 407, 408, 409, 388, 389, 397, 398, 399, 400, 401, 402, 403, 404, 405, 406] (by decide +kernel) (by decide +kernel)) (goodIn_sub (fun _ h => List.mem_append_left _ (List.mem_append_left _ (List.mem_append_right _ h))) (by decide +kernel))) (goodIn_sub (fun _ h => List.mem_append_left _ (List.mem_append_right _ h)) (by decide +kernel))) (goodIn_sub (fun _ h => List.mem_append_right _ h) (by decide +kernel))
set_option maxRecDepth 20000 in
theorem gL_law_L_alike : GoodIn wsL_law (va_wsS RL 150 yL_alike wsL_alike) := goodIn_app (goodIn_of _ (by decide +kernel)) ggL_law_L_alike
set_option maxRecDepth 20000 in
theorem ggL_law_X5_today : GoodIn wsL_law wsX5_today := goodIn_r _ [158, 10, 381, 382, 383, 384, 385, 386, 387] (by decide +kernel) (by decide +kernel)
set_option maxRecDepth 20000 in
theorem gL_law_X5_today : GoodIn wsL_law (wsV RL 133 RX5 yX5_today wsX5_today) := goodIn_app (goodIn_of _ (by decide +kernel)) ggL_law_X5_today
set_option maxRecDepth 20000 in
theorem ggL_law_L_holds : GoodIn wsL_law wsL_holds := goodIn_ca (goodIn_ca (goodIn_ca (goodIn_r _ [377, 200, 260, 261, 75, 262, 142, 85, 263, 143, 87, 264, 265, 266, 2, 267, 30, 268, 149, 150, 151, 152, 153, 154, 18, 95, 208, 209, 210, 96, 97, 98, 99, 100, 223, 224, 225, 29, 226, 71, 227, 70, 72, 228, 212, 213, 17, 214, 45, 43, 215, 42, 229, 230, 231, 232, 233, 234, 235, 236, 49, 237, 238, 239, 240, 47, 241, 242, 243, 244, 245, 246, 247, 248, 249, 250, 251, 252, 253, 254, 255, 269, 270, 271, 272, 273, 274, 201, 202, 203, 204, 205, 206, 207, 14, 211, 275, 276, 277, 278, 279, 280, 281, 190, 191, 192, 282, 283, 284, 285, 286, 287, 288, 289, 290, 291, 292, 293, 294, 295, 296, 216, 217, 218, 219, 220, 221, 222, 256, 257, 258, 259, 297, 298, 299, 300, 301, 302, 303, 304, 305, 306, 307, 361, 362, 363, 364, 365, 366, 367, 31, 368, 369, 370, 371, 308, 309, 310, 311, 312, 313, 314, 22, 315, 316, 317, 21, 318, 57, 319, 320, 321, 322, 53, 323, 54, 56, 324, 325, 326, 327, 55, 328, 329, 330, 331, 332, 333, 334, 335, 336, 337, 338, 339, 340, 341, 342, 343, 381, 382, 383, 384, 385, 386, 387, 407, 408, 409, 390, 391, 392, 393, 394, 395, 396, 388, 389, 397, 398, 399, 400, 401] (by decide +kernel) (by decide +kernel)) (goodIn_sub (fun _ h => List.mem_append_left _ (List.mem_append_right _ h)) (by decide +kernel))) (goodIn_sub (fun _ h => List.mem_append_left _ (List.mem_append_left _ (List.mem_append_right _ h))) (by decide +kernel))) (goodIn_sub (fun _ h => List.mem_append_right _ h) (by decide +kernel))
set_option maxRecDepth 20000 in
theorem gL_law_L_holds : GoodIn wsL_law (va_wsS RL 154 yL_holds wsL_holds) := goodIn_app (goodIn_of _ (by decide +kernel)) ggL_law_L_holds
set_option maxRecDepth 20000 in
theorem ggL_law_L_parts : GoodIn wsL_law wsL_parts := goodIn_ca (goodIn_ca (goodIn_ca (goodIn_ca (goodIn_r _ [380, 155, 156, 157, 2, 158, 10, 216, 217, 75, 218, 85, 87, 219, 220, 221, 222, 30, 18, 95, 208, 209, 210, 96, 97, 98, 99, 100, 223, 224, 225, 29, 226, 71, 227, 70, 72, 228, 212, 213, 17, 214, 45, 43, 215, 42, 229, 230, 231, 232, 233, 234, 235, 236, 49, 237, 238, 239, 240, 47, 241, 242, 243, 244, 245, 246, 247, 248, 249, 250, 251, 252, 253, 254, 255, 256, 257, 258, 259, 159, 160, 161, 142, 143, 162, 163, 164, 165, 166, 149, 150, 151, 152, 153, 154, 167, 168, 169, 201, 202, 203, 204, 205, 206, 207, 14, 211, 260, 261, 262, 263, 200, 264, 265, 266, 267, 268, 269, 270, 271, 272, 273, 274, 113, 114, 115, 86, 88, 116, 117, 118, 119, 93, 94, 82, 83, 84, 89, 90, 91, 92, 101, 102, 103, 104, 41, 105, 106, 107, 108, 109, 110, 111, 112, 48, 381, 382, 383, 384, 385, 386, 387, 390, 391, 392, 393, 394, 395, 396, 407, 408, 409, 388, 389] (by decide +kernel) (by decide +kernel)) (goodIn_sub (fun _ h => List.mem_append_left _ (List.mem_append_left _ (List.mem_append_right _ h))) (by decide +kernel))) (goodIn_sub (fun _ h => List.mem_append_left _ (List.mem_append_right _ h)) (by decide +kernel))) (goodIn_sub (fun _ h => List.mem_append_right _ h) (by decide +kernel))) (goodIn_sub (fun _ h => List.mem_append_left _ (List.mem_append_left _ (List.mem_append_left _ (List.mem_append_right _ h)))) (by decide +kernel))
set_option maxRecDepth 20000 in
theorem gL_law_L_parts : GoodIn wsL_law (va_wsS RL 158 yL_parts wsL_parts) := goodIn_app (goodIn_of _ (by decide +kernel)) ggL_law_L_parts
theorem dL_law_0 : decode cL_law 0 = .ok (.new 8, 3) := by decide +kernel
theorem dL_law_3 : decode cL_law 3 = .ok (.dup, 1) := by decide +kernel
theorem dL_law_4 : decode cL_law 4 = .ok (.invokespecial 137, 3) := by decide +kernel
theorem dL_law_7 : decode cL_law 7 = .ok (.astore_n 1, 1) := by decide +kernel
theorem dL_law_8 : decode cL_law 8 = .ok (.new 8, 3) := by decide +kernel
theorem dL_law_11 : decode cL_law 11 = .ok (.dup, 1) := by decide +kernel
theorem dL_law_12 : decode cL_law 12 = .ok (.invokespecial 137, 3) := by decide +kernel
theorem dL_law_15 : decode cL_law 15 = .ok (.astore_n 2, 1) := by decide +kernel
theorem dL_law_16 : decode cL_law 16 = .ok (.iconst 3, 1) := by decide +kernel
theorem dL_law_17 : decode cL_law 17 = .ok (.newarray .int, 2) := by decide +kernel
theorem dL_law_19 : decode cL_law 19 = .ok (.astore_n 3, 1) := by decide +kernel
theorem dL_law_20 : decode cL_law 20 = .ok (.bipush 16, 2) := by decide +kernel
theorem dL_law_22 : decode cL_law 22 = .ok (.aload_n 0, 1) := by decide +kernel
theorem dL_law_23 : decode cL_law 23 = .ok (.iconst 0, 1) := by decide +kernel
theorem dL_law_24 : decode cL_law 24 = .ok (.invokestatic 138, 3) := by decide +kernel
theorem dL_law_27 : decode cL_law 27 = .ok (.bipush 29, 2) := by decide +kernel
theorem dL_law_29 : decode cL_law 29 = .ok (.irem, 1) := by decide +kernel
theorem dL_law_30 : decode cL_law 30 = .ok (.iadd, 1) := by decide +kernel
theorem dL_law_31 : decode cL_law 31 = .ok (.istore 4, 2) := by decide +kernel
theorem dL_law_33 : decode cL_law 33 = .ok (.iconst 1, 1) := by decide +kernel
theorem dL_law_34 : decode cL_law 34 = .ok (.istore 5, 2) := by decide +kernel
theorem dL_law_36 : decode cL_law 36 = .ok (.iconst 0, 1) := by decide +kernel
theorem dL_law_37 : decode cL_law 37 = .ok (.istore 6, 2) := by decide +kernel
theorem dL_law_39 : decode cL_law 39 = .ok (.iload 6, 2) := by decide +kernel
theorem dL_law_41 : decode cL_law 41 = .ok (.iload 4, 2) := by decide +kernel
theorem dL_law_43 : decode cL_law 43 = .ok (.if_icmp .ge 248, 3) := by decide +kernel
theorem dL_law_46 : decode cL_law 46 = .ok (.iload 5, 2) := by decide +kernel
theorem dL_law_48 : decode cL_law 48 = .ok (.ifCond .eq 243, 3) := by decide +kernel
theorem dL_law_51 : decode cL_law 51 = .ok (.aload_n 0, 1) := by decide +kernel
theorem dL_law_52 : decode cL_law 52 = .ok (.iconst 1, 1) := by decide +kernel
theorem dL_law_53 : decode cL_law 53 = .ok (.iload 6, 2) := by decide +kernel
theorem dL_law_55 : decode cL_law 55 = .ok (.iadd, 1) := by decide +kernel
theorem dL_law_56 : decode cL_law 56 = .ok (.invokestatic 138, 3) := by decide +kernel
theorem dL_law_59 : decode cL_law 59 = .ok (.istore 7, 2) := by decide +kernel
theorem dL_law_61 : decode cL_law 61 = .ok (.iload 6, 2) := by decide +kernel
theorem dL_law_63 : decode cL_law 63 = .ok (.iconst 5, 1) := by decide +kernel
theorem dL_law_64 : decode cL_law 64 = .ok (.if_icmp .ge 14, 3) := by decide +kernel
theorem dL_law_67 : decode cL_law 67 = .ok (.iload 7, 2) := by decide +kernel
theorem dL_law_69 : decode cL_law 69 = .ok (.bipush 16, 2) := by decide +kernel
theorem dL_law_71 : decode cL_law 71 = .ok (.idiv, 1) := by decide +kernel
theorem dL_law_72 : decode cL_law 72 = .ok (.bipush 16, 2) := by decide +kernel
theorem dL_law_74 : decode cL_law 74 = .ok (.imul, 1) := by decide +kernel
theorem dL_law_75 : decode cL_law 75 = .ok (.goto 5, 3) := by decide +kernel
theorem dL_law_78 : decode cL_law 78 = .ok (.iload 7, 2) := by decide +kernel
theorem dL_law_80 : decode cL_law 80 = .ok (.istore 7, 2) := by decide +kernel
theorem dL_law_82 : decode cL_law 82 = .ok (.aload_n 1, 1) := by decide +kernel
theorem dL_law_83 : decode cL_law 83 = .ok (.aload_n 3, 1) := by decide +kernel
theorem dL_law_84 : decode cL_law 84 = .ok (.iload 7, 2) := by decide +kernel
theorem dL_law_86 : decode cL_law 86 = .ok (.invokestatic 142, 3) := by decide +kernel
theorem dL_law_89 : decode cL_law 89 = .ok (.istore 8, 2) := by decide +kernel
theorem dL_law_91 : decode cL_law 91 = .ok (.aload_n 2, 1) := by decide +kernel
theorem dL_law_92 : decode cL_law 92 = .ok (.aload_n 3, 1) := by decide +kernel
theorem dL_law_93 : decode cL_law 93 = .ok (.iload 7, 2) := by decide +kernel
theorem dL_law_95 : decode cL_law 95 = .ok (.sipush 9973, 3) := by decide +kernel
theorem dL_law_98 : decode cL_law 98 = .ok (.irem, 1) := by decide +kernel
theorem dL_law_99 : decode cL_law 99 = .ok (.invokestatic 146, 3) := by decide +kernel
theorem dL_law_102 : decode cL_law 102 = .ok (.ifCond .eq 19, 3) := by decide +kernel
theorem dL_law_105 : decode cL_law 105 = .ok (.aload_n 2, 1) := by decide +kernel
theorem dL_law_106 : decode cL_law 106 = .ok (.aload_n 3, 1) := by decide +kernel
theorem dL_law_107 : decode cL_law 107 = .ok (.iload 7, 2) := by decide +kernel
theorem dL_law_109 : decode cL_law 109 = .ok (.invokestatic 142, 3) := by decide +kernel
theorem dL_law_112 : decode cL_law 112 = .ok (.iload 8, 2) := by decide +kernel
theorem dL_law_114 : decode cL_law 114 = .ok (.if_icmp .ne 7, 3) := by decide +kernel
theorem dL_law_117 : decode cL_law 117 = .ok (.iconst 1, 1) := by decide +kernel
theorem dL_law_118 : decode cL_law 118 = .ok (.goto 4, 3) := by decide +kernel
theorem dL_law_121 : decode cL_law 121 = .ok (.iconst 0, 1) := by decide +kernel
theorem dL_law_122 : decode cL_law 122 = .ok (.istore 5, 2) := by decide +kernel
theorem dL_law_124 : decode cL_law 124 = .ok (.aload_n 3, 1) := by decide +kernel
theorem dL_law_125 : decode cL_law 125 = .ok (.iconst 0, 1) := by decide +kernel
theorem dL_law_126 : decode cL_law 126 = .ok (.dup2, 1) := by decide +kernel
theorem dL_law_127 : decode cL_law 127 = .ok (.iaload, 1) := by decide +kernel
theorem dL_law_128 : decode cL_law 128 = .ok (.iload 7, 2) := by decide +kernel
theorem dL_law_130 : decode cL_law 130 = .ok (.bipush 16, 2) := by decide +kernel
theorem dL_law_132 : decode cL_law 132 = .ok (.irem, 1) := by decide +kernel
theorem dL_law_133 : decode cL_law 133 = .ok (.bipush 6, 2) := by decide +kernel
theorem dL_law_135 : decode cL_law 135 = .ok (.if_icmp .ge 12, 3) := by decide +kernel
theorem dL_law_138 : decode cL_law 138 = .ok (.iload 8, 2) := by decide +kernel
theorem dL_law_140 : decode cL_law 140 = .ok (.ifCond .lt 7, 3) := by decide +kernel
theorem dL_law_143 : decode cL_law 143 = .ok (.iconst 1, 1) := by decide +kernel
theorem dL_law_144 : decode cL_law 144 = .ok (.goto 4, 3) := by decide +kernel
theorem dL_law_147 : decode cL_law 147 = .ok (.iconst 0, 1) := by decide +kernel
theorem dL_law_148 : decode cL_law 148 = .ok (.iadd, 1) := by decide +kernel
theorem dL_law_149 : decode cL_law 149 = .ok (.iastore, 1) := by decide +kernel
theorem dL_law_150 : decode cL_law 150 = .ok (.aload_n 3, 1) := by decide +kernel
theorem dL_law_151 : decode cL_law 151 = .ok (.iconst 1, 1) := by decide +kernel
theorem dL_law_152 : decode cL_law 152 = .ok (.dup2, 1) := by decide +kernel
theorem dL_law_153 : decode cL_law 153 = .ok (.iaload, 1) := by decide +kernel
theorem dL_law_154 : decode cL_law 154 = .ok (.iload 7, 2) := by decide +kernel
theorem dL_law_156 : decode cL_law 156 = .ok (.bipush 16, 2) := by decide +kernel
theorem dL_law_158 : decode cL_law 158 = .ok (.irem, 1) := by decide +kernel
theorem dL_law_159 : decode cL_law 159 = .ok (.bipush 13, 2) := by decide +kernel
theorem dL_law_161 : decode cL_law 161 = .ok (.if_icmp .eq 13, 3) := by decide +kernel
theorem dL_law_164 : decode cL_law 164 = .ok (.iload 7, 2) := by decide +kernel
theorem dL_law_166 : decode cL_law 166 = .ok (.bipush 16, 2) := by decide +kernel
theorem dL_law_168 : decode cL_law 168 = .ok (.irem, 1) := by decide +kernel
theorem dL_law_169 : decode cL_law 169 = .ok (.bipush 14, 2) := by decide +kernel
theorem dL_law_171 : decode cL_law 171 = .ok (.if_icmp .ne 12, 3) := by decide +kernel
theorem dL_law_174 : decode cL_law 174 = .ok (.iload 8, 2) := by decide +kernel
theorem dL_law_176 : decode cL_law 176 = .ok (.ifCond .lt 7, 3) := by decide +kernel
theorem dL_law_179 : decode cL_law 179 = .ok (.iconst 1, 1) := by decide +kernel
theorem dL_law_180 : decode cL_law 180 = .ok (.goto 4, 3) := by decide +kernel
theorem dL_law_183 : decode cL_law 183 = .ok (.iconst 0, 1) := by decide +kernel
theorem dL_law_184 : decode cL_law 184 = .ok (.iadd, 1) := by decide +kernel
theorem dL_law_185 : decode cL_law 185 = .ok (.iastore, 1) := by decide +kernel
theorem dL_law_186 : decode cL_law 186 = .ok (.aload_n 3, 1) := by decide +kernel
theorem dL_law_187 : decode cL_law 187 = .ok (.iconst 2, 1) := by decide +kernel
theorem dL_law_188 : decode cL_law 188 = .ok (.dup2, 1) := by decide +kernel
theorem dL_law_189 : decode cL_law 189 = .ok (.iaload, 1) := by decide +kernel
theorem dL_law_190 : decode cL_law 190 = .ok (.iload 7, 2) := by decide +kernel
theorem dL_law_192 : decode cL_law 192 = .ok (.bipush 16, 2) := by decide +kernel
theorem dL_law_194 : decode cL_law 194 = .ok (.irem, 1) := by decide +kernel
theorem dL_law_195 : decode cL_law 195 = .ok (.bipush 15, 2) := by decide +kernel
theorem dL_law_197 : decode cL_law 197 = .ok (.if_icmp .ne 12, 3) := by decide +kernel
theorem dL_law_200 : decode cL_law 200 = .ok (.iload 8, 2) := by decide +kernel
theorem dL_law_202 : decode cL_law 202 = .ok (.ifCond .lt 7, 3) := by decide +kernel
theorem dL_law_205 : decode cL_law 205 = .ok (.iconst 1, 1) := by decide +kernel
theorem dL_law_206 : decode cL_law 206 = .ok (.goto 4, 3) := by decide +kernel
theorem dL_law_209 : decode cL_law 209 = .ok (.iconst 0, 1) := by decide +kernel
theorem dL_law_210 : decode cL_law 210 = .ok (.iadd, 1) := by decide +kernel
theorem dL_law_211 : decode cL_law 211 = .ok (.iastore, 1) := by decide +kernel
theorem dL_law_212 : decode cL_law 212 = .ok (.iload 5, 2) := by decide +kernel
theorem dL_law_214 : decode cL_law 214 = .ok (.ifCond .eq 68, 3) := by decide +kernel
theorem dL_law_217 : decode cL_law 217 = .ok (.aload_n 2, 1) := by decide +kernel
theorem dL_law_218 : decode cL_law 218 = .ok (.aload_n 3, 1) := by decide +kernel
theorem dL_law_219 : decode cL_law 219 = .ok (.iload 7, 2) := by decide +kernel
theorem dL_law_221 : decode cL_law 221 = .ok (.sipush 499, 3) := by decide +kernel
theorem dL_law_224 : decode cL_law 224 = .ok (.irem, 1) := by decide +kernel
theorem dL_law_225 : decode cL_law 225 = .ok (.invokestatic 146, 3) := by decide +kernel
theorem dL_law_228 : decode cL_law 228 = .ok (.ifCond .eq 54, 3) := by decide +kernel
theorem dL_law_231 : decode cL_law 231 = .ok (.iload 6, 2) := by decide +kernel
theorem dL_law_233 : decode cL_law 233 = .ok (.iconst 3, 1) := by decide +kernel
theorem dL_law_234 : decode cL_law 234 = .ok (.irem, 1) := by decide +kernel
theorem dL_law_235 : decode cL_law 235 = .ok (.ifCond .gt 17, 3) := by decide +kernel
theorem dL_law_238 : decode cL_law 238 = .ok (.aload_n 1, 1) := by decide +kernel
theorem dL_law_239 : decode cL_law 239 = .ok (.aload_n 2, 1) := by decide +kernel
theorem dL_law_240 : decode cL_law 240 = .ok (.aload_n 3, 1) := by decide +kernel
theorem dL_law_241 : decode cL_law 241 = .ok (.iload 7, 2) := by decide +kernel
theorem dL_law_243 : decode cL_law 243 = .ok (.bipush 7, 2) := by decide +kernel
theorem dL_law_245 : decode cL_law 245 = .ok (.idiv, 1) := by decide +kernel
theorem dL_law_246 : decode cL_law 246 = .ok (.invokestatic 150, 3) := by decide +kernel
theorem dL_law_249 : decode cL_law 249 = .ok (.ifCond .eq 33, 3) := by decide +kernel
theorem dL_law_252 : decode cL_law 252 = .ok (.iload 6, 2) := by decide +kernel
theorem dL_law_254 : decode cL_law 254 = .ok (.bipush 8, 2) := by decide +kernel
theorem dL_law_256 : decode cL_law 256 = .ok (.irem, 1) := by decide +kernel
theorem dL_law_257 : decode cL_law 257 = .ok (.bipush 7, 2) := by decide +kernel
theorem dL_law_259 : decode cL_law 259 = .ok (.if_icmp .lt 19, 3) := by decide +kernel
theorem dL_law_262 : decode cL_law 262 = .ok (.aload_n 2, 1) := by decide +kernel
theorem dL_law_263 : decode cL_law 263 = .ok (.aload_n 3, 1) := by decide +kernel
theorem dL_law_264 : decode cL_law 264 = .ok (.aload_n 1, 1) := by decide +kernel
theorem dL_law_265 : decode cL_law 265 = .ok (.invokevirtual 133, 3) := by decide +kernel
theorem dL_law_268 : decode cL_law 268 = .ok (.iload 7, 2) := by decide +kernel
theorem dL_law_270 : decode cL_law 270 = .ok (.iconst 3, 1) := by decide +kernel
theorem dL_law_271 : decode cL_law 271 = .ok (.idiv, 1) := by decide +kernel
theorem dL_law_272 : decode cL_law 272 = .ok (.invokestatic 154, 3) := by decide +kernel
theorem dL_law_275 : decode cL_law 275 = .ok (.ifCond .eq 7, 3) := by decide +kernel
theorem dL_law_278 : decode cL_law 278 = .ok (.iconst 1, 1) := by decide +kernel
theorem dL_law_279 : decode cL_law 279 = .ok (.goto 4, 3) := by decide +kernel
theorem dL_law_282 : decode cL_law 282 = .ok (.iconst 0, 1) := by decide +kernel
theorem dL_law_283 : decode cL_law 283 = .ok (.istore 5, 2) := by decide +kernel
theorem dL_law_285 : decode cL_law 285 = .ok (.iinc 6 1, 3) := by decide +kernel
theorem dL_law_288 : decode cL_law 288 = .ok (.goto (-249), 3) := by decide +kernel
theorem dL_law_291 : decode cL_law 291 = .ok (.aload_n 1, 1) := by decide +kernel
theorem dL_law_292 : decode cL_law 292 = .ok (.invokevirtual 133, 3) := by decide +kernel
theorem dL_law_295 : decode cL_law 295 = .ok (.istore 6, 2) := by decide +kernel
theorem dL_law_297 : decode cL_law 297 = .ok (.iload 5, 2) := by decide +kernel
theorem dL_law_299 : decode cL_law 299 = .ok (.ifCond .eq 90, 3) := by decide +kernel
theorem dL_law_302 : decode cL_law 302 = .ok (.aload_n 1, 1) := by decide +kernel
theorem dL_law_303 : decode cL_law 303 = .ok (.aload_n 2, 1) := by decide +kernel
theorem dL_law_304 : decode cL_law 304 = .ok (.aload_n 3, 1) := by decide +kernel
theorem dL_law_305 : decode cL_law 305 = .ok (.iconst 0, 1) := by decide +kernel
theorem dL_law_306 : decode cL_law 306 = .ok (.invokestatic 150, 3) := by decide +kernel
theorem dL_law_309 : decode cL_law 309 = .ok (.ifCond .eq 80, 3) := by decide +kernel
theorem dL_law_312 : decode cL_law 312 = .ok (.aload_n 1, 1) := by decide +kernel
theorem dL_law_313 : decode cL_law 313 = .ok (.aload_n 3, 1) := by decide +kernel
theorem dL_law_314 : decode cL_law 314 = .ok (.iload 6, 2) := by decide +kernel
theorem dL_law_316 : decode cL_law 316 = .ok (.aload_n 0, 1) := by decide +kernel
theorem dL_law_317 : decode cL_law 317 = .ok (.iconst 0, 1) := by decide +kernel
theorem dL_law_318 : decode cL_law 318 = .ok (.invokestatic 138, 3) := by decide +kernel
theorem dL_law_321 : decode cL_law 321 = .ok (.bipush 29, 2) := by decide +kernel
theorem dL_law_323 : decode cL_law 323 = .ok (.idiv, 1) := by decide +kernel
theorem dL_law_324 : decode cL_law 324 = .ok (.invokestatic 154, 3) := by decide +kernel
theorem dL_law_327 : decode cL_law 327 = .ok (.ifCond .eq 62, 3) := by decide +kernel
theorem dL_law_330 : decode cL_law 330 = .ok (.aload_n 2, 1) := by decide +kernel
theorem dL_law_331 : decode cL_law 331 = .ok (.aload_n 3, 1) := by decide +kernel
theorem dL_law_332 : decode cL_law 332 = .ok (.iload 6, 2) := by decide +kernel
theorem dL_law_334 : decode cL_law 334 = .ok (.bipush 9, 2) := by decide +kernel
theorem dL_law_336 : decode cL_law 336 = .ok (.if_icmp .ge 7, 3) := by decide +kernel
theorem dL_law_339 : decode cL_law 339 = .ok (.iconst 0, 1) := by decide +kernel
theorem dL_law_340 : decode cL_law 340 = .ok (.goto 8, 3) := by decide +kernel
theorem dL_law_343 : decode cL_law 343 = .ok (.iload 6, 2) := by decide +kernel
theorem dL_law_345 : decode cL_law 345 = .ok (.bipush 9, 2) := by decide +kernel
theorem dL_law_347 : decode cL_law 347 = .ok (.isub, 1) := by decide +kernel
theorem dL_law_348 : decode cL_law 348 = .ok (.aload_n 0, 1) := by decide +kernel
theorem dL_law_349 : decode cL_law 349 = .ok (.iconst 0, 1) := by decide +kernel
theorem dL_law_350 : decode cL_law 350 = .ok (.invokestatic 138, 3) := by decide +kernel
theorem dL_law_353 : decode cL_law 353 = .ok (.bipush 31, 2) := by decide +kernel
theorem dL_law_355 : decode cL_law 355 = .ok (.idiv, 1) := by decide +kernel
theorem dL_law_356 : decode cL_law 356 = .ok (.invokestatic 154, 3) := by decide +kernel
theorem dL_law_359 : decode cL_law 359 = .ok (.ifCond .eq 30, 3) := by decide +kernel
theorem dL_law_362 : decode cL_law 362 = .ok (.aload_n 3, 1) := by decide +kernel
theorem dL_law_363 : decode cL_law 363 = .ok (.iconst 0, 1) := by decide +kernel
theorem dL_law_364 : decode cL_law 364 = .ok (.iaload, 1) := by decide +kernel
theorem dL_law_365 : decode cL_law 365 = .ok (.iconst 2, 1) := by decide +kernel
theorem dL_law_366 : decode cL_law 366 = .ok (.if_icmp .lt 19, 3) := by decide +kernel
theorem dL_law_369 : decode cL_law 369 = .ok (.aload_n 1, 1) := by decide +kernel
theorem dL_law_370 : decode cL_law 370 = .ok (.aload_n 3, 1) := by decide +kernel
theorem dL_law_371 : decode cL_law 371 = .ok (.aload_n 0, 1) := by decide +kernel
theorem dL_law_372 : decode cL_law 372 = .ok (.iconst 0, 1) := by decide +kernel
theorem dL_law_373 : decode cL_law 373 = .ok (.invokestatic 138, 3) := by decide +kernel
theorem dL_law_376 : decode cL_law 376 = .ok (.bipush 37, 2) := by decide +kernel
theorem dL_law_378 : decode cL_law 378 = .ok (.idiv, 1) := by decide +kernel
theorem dL_law_379 : decode cL_law 379 = .ok (.invokestatic 158, 3) := by decide +kernel
theorem dL_law_382 : decode cL_law 382 = .ok (.ifCond .eq 7, 3) := by decide +kernel
theorem dL_law_385 : decode cL_law 385 = .ok (.iconst 1, 1) := by decide +kernel
theorem dL_law_386 : decode cL_law 386 = .ok (.goto 4, 3) := by decide +kernel
theorem dL_law_389 : decode cL_law 389 = .ok (.iconst 0, 1) := by decide +kernel
theorem dL_law_390 : decode cL_law 390 = .ok (.ireturn, 1) := by decide +kernel
