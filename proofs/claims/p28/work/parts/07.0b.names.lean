theorem dL_cell_0 : decode cL_cell 0 = .ok (.iload_n 1, 1) := by decide +kernel
theorem dL_cell_1 : decode cL_cell 1 = .ok (.aload_n 0, 1) := by decide +kernel
theorem dL_cell_2 : decode cL_cell 2 = .ok (.arraylength, 1) := by decide +kernel
theorem dL_cell_3 : decode cL_cell 3 = .ok (.if_icmp .ge 9, 3) := by decide +kernel
theorem dL_cell_6 : decode cL_cell 6 = .ok (.aload_n 0, 1) := by decide +kernel
theorem dL_cell_7 : decode cL_cell 7 = .ok (.iload_n 1, 1) := by decide +kernel
theorem dL_cell_8 : decode cL_cell 8 = .ok (.iaload, 1) := by decide +kernel
theorem dL_cell_9 : decode cL_cell 9 = .ok (.goto 11, 3) := by decide +kernel
theorem dL_cell_12 : decode cL_cell 12 = .ok (.ldc 7, 2) := by decide +kernel
theorem dL_cell_14 : decode cL_cell 14 = .ok (.iload_n 1, 1) := by decide +kernel
theorem dL_cell_15 : decode cL_cell 15 = .ok (.imul, 1) := by decide +kernel
theorem dL_cell_16 : decode cL_cell 16 = .ok (.sipush 8043, 3) := by decide +kernel
theorem dL_cell_19 : decode cL_cell 19 = .ok (.iadd, 1) := by decide +kernel
theorem dL_cell_20 : decode cL_cell 20 = .ok (.ldc 8, 2) := by decide +kernel
theorem dL_cell_22 : decode cL_cell 22 = .ok (.iand, 1) := by decide +kernel
theorem dL_cell_23 : decode cL_cell 23 = .ok (.ireturn, 1) := by decide +kernel
theorem dL_away_0 : decode cL_away 0 = .ok (.iload_n 0, 1) := by decide +kernel
theorem dL_away_1 : decode cL_away 1 = .ok (.iload_n 1, 1) := by decide +kernel
theorem dL_away_2 : decode cL_away 2 = .ok (.if_icmp .le 9, 3) := by decide +kernel
theorem dL_away_5 : decode cL_away 5 = .ok (.iload_n 0, 1) := by decide +kernel
theorem dL_away_6 : decode cL_away 6 = .ok (.iload_n 1, 1) := by decide +kernel
theorem dL_away_7 : decode cL_away 7 = .ok (.isub, 1) := by decide +kernel
theorem dL_away_8 : decode cL_away 8 = .ok (.goto 6, 3) := by decide +kernel
theorem dL_away_11 : decode cL_away 11 = .ok (.iload_n 1, 1) := by decide +kernel
theorem dL_away_12 : decode cL_away 12 = .ok (.iload_n 0, 1) := by decide +kernel
theorem dL_away_13 : decode cL_away 13 = .ok (.isub, 1) := by decide +kernel
theorem dL_away_14 : decode cL_away 14 = .ok (.ireturn, 1) := by decide +kernel
set_option maxRecDepth 20000 in
theorem ggL_far_X4_pot : GoodIn wsL_far wsX4_pot := goodIn_r _ [5, 6, 7, 8, 4, 9, 10, 11, 12, 13, 14, 15, 16, 17, 18, 19, 20, 21, 22, 23, 24, 25, 26, 27, 28, 29, 30, 31, 32, 33, 34, 35, 36, 37, 38, 39, 40, 41, 42, 79, 80, 81, 82, 83, 84, 85, 86, 87, 88, 89, 90, 91, 92, 93, 94, 95, 96, 97] (by decide +kernel) (by decide +kernel)
set_option maxRecDepth 20000 in
theorem gL_far_X4_pot : GoodIn wsL_far (wsV RL 9 RX4 yX4_pot wsX4_pot) := goodIn_app (goodIn_of _ (by decide +kernel)) ggL_far_X4_pot
set_option maxRecDepth 20000 in
theorem ggL_far_X4_panel : GoodIn wsL_far wsX4_panel := goodIn_r _ [46, 6, 7, 8, 4, 9, 47, 48, 49, 13, 50, 51, 52, 53, 22, 23, 16, 17, 54, 55, 56, 57, 58, 59, 60, 61, 62, 63, 64, 65, 66, 67, 68, 69, 70, 71, 72, 73, 74, 79, 80, 81, 82, 83, 84, 85, 86, 87, 88, 89, 90, 91, 92, 93, 94, 95, 96, 97] (by decide +kernel) (by decide +kernel)
set_option maxRecDepth 20000 in
theorem gL_far_X4_panel : GoodIn wsL_far (wsV RL 15 RX4 yX4_panel wsX4_panel) := goodIn_app (goodIn_of _ (by decide +kernel)) ggL_far_X4_panel
set_option maxRecDepth 20000 in
theorem ggL_far_L_away : GoodIn wsL_far wsL_away := goodIn_r _ [78] (by decide +kernel) (by decide +kernel)
set_option maxRecDepth 20000 in
theorem gL_far_L_away : GoodIn wsL_far (va_wsS RL 18 yL_away wsL_away) := goodIn_app (goodIn_of _ (by decide +kernel)) ggL_far_L_away
theorem dL_far_0 : decode cL_far 0 = .ok (.aload_n 0, 1) := by decide +kernel
theorem dL_far_1 : decode cL_far 1 = .ok (.iload_n 2, 1) := by decide +kernel
theorem dL_far_2 : decode cL_far 2 = .ok (.iconst 5, 1) := by decide +kernel
theorem dL_far_3 : decode cL_far 3 = .ok (.invokevirtual 9, 3) := by decide +kernel
theorem dL_far_6 : decode cL_far 6 = .ok (.aload_n 0, 1) := by decide +kernel
theorem dL_far_7 : decode cL_far 7 = .ok (.iload_n 1, 1) := by decide +kernel
theorem dL_far_8 : decode cL_far 8 = .ok (.iconst 0, 1) := by decide +kernel
theorem dL_far_9 : decode cL_far 9 = .ok (.invokevirtual 15, 3) := by decide +kernel
theorem dL_far_12 : decode cL_far 12 = .ok (.invokestatic 18, 3) := by decide +kernel
theorem dL_far_15 : decode cL_far 15 = .ok (.aload_n 0, 1) := by decide +kernel
theorem dL_far_16 : decode cL_far 16 = .ok (.iload_n 2, 1) := by decide +kernel
theorem dL_far_17 : decode cL_far 17 = .ok (.bipush 6, 2) := by decide +kernel
theorem dL_far_19 : decode cL_far 19 = .ok (.invokevirtual 9, 3) := by decide +kernel
theorem dL_far_22 : decode cL_far 22 = .ok (.aload_n 0, 1) := by decide +kernel
theorem dL_far_23 : decode cL_far 23 = .ok (.iload_n 1, 1) := by decide +kernel
theorem dL_far_24 : decode cL_far 24 = .ok (.iconst 1, 1) := by decide +kernel
theorem dL_far_25 : decode cL_far 25 = .ok (.invokevirtual 15, 3) := by decide +kernel
theorem dL_far_28 : decode cL_far 28 = .ok (.invokestatic 18, 3) := by decide +kernel
theorem dL_far_31 : decode cL_far 31 = .ok (.iadd, 1) := by decide +kernel
theorem dL_far_32 : decode cL_far 32 = .ok (.aload_n 0, 1) := by decide +kernel
theorem dL_far_33 : decode cL_far 33 = .ok (.iload_n 2, 1) := by decide +kernel
theorem dL_far_34 : decode cL_far 34 = .ok (.bipush 7, 2) := by decide +kernel
theorem dL_far_36 : decode cL_far 36 = .ok (.invokevirtual 9, 3) := by decide +kernel
theorem dL_far_39 : decode cL_far 39 = .ok (.aload_n 0, 1) := by decide +kernel
theorem dL_far_40 : decode cL_far 40 = .ok (.iload_n 1, 1) := by decide +kernel
theorem dL_far_41 : decode cL_far 41 = .ok (.iconst 2, 1) := by decide +kernel
theorem dL_far_42 : decode cL_far 42 = .ok (.invokevirtual 15, 3) := by decide +kernel
theorem dL_far_45 : decode cL_far 45 = .ok (.invokestatic 18, 3) := by decide +kernel
theorem dL_far_48 : decode cL_far 48 = .ok (.iadd, 1) := by decide +kernel
theorem dL_far_49 : decode cL_far 49 = .ok (.ireturn, 1) := by decide +kernel
set_option maxRecDepth 20000 in
theorem ggL_areDrops_X4_pot : GoodIn wsL_areDrops wsX4_pot := goodIn_r _ [5, 6, 7, 8, 4, 9, 10, 11, 12, 13, 14, 15, 16, 17, 18, 19, 20, 21, 22, 23, 24, 25, 26, 27, 28, 29, 30, 31, 32, 33, 34, 35, 36, 37, 38, 39, 40, 41, 42, 119, 120, 121, 122, 123, 124, 125, 126, 127, 128, 129, 130, 131, 132, 133, 134, 135, 136, 137] (by decide +kernel) (by decide +kernel)
set_option maxRecDepth 20000 in
theorem gL_areDrops_X4_pot : GoodIn wsL_areDrops (wsV RL 9 RX4 yX4_pot wsX4_pot) := goodIn_app (goodIn_of _ (by decide +kernel)) ggL_areDrops_X4_pot
set_option maxRecDepth 20000 in
theorem ggL_areDrops_X4_panel : GoodIn wsL_areDrops wsX4_panel := goodIn_r _ [46, 6, 7, 8, 4, 9, 47, 48, 49, 13, 50, 51, 52, 53, 22, 23, 16, 17, 54, 55, 56, 57, 58, 59, 60, 61, 62, 63, 64, 65, 66, 67, 68, 69, 70, 71, 72, 73, 74, 119, 120, 121, 122, 123, 124, 125, 126, 127, 128, 129, 130, 131, 132, 133, 134, 135, 136, 137] (by decide +kernel) (by decide +kernel)
set_option maxRecDepth 20000 in
theorem gL_areDrops_X4_panel : GoodIn wsL_areDrops (wsV RL 15 RX4 yX4_panel wsX4_panel) := goodIn_app (goodIn_of _ (by decide +kernel)) ggL_areDrops_X4_panel
set_option maxRecDepth 20000 in
theorem ggL_areDrops_L_away : GoodIn wsL_areDrops wsL_away := goodIn_r _ [78] (by decide +kernel) (by decide +kernel)
set_option maxRecDepth 20000 in
theorem gL_areDrops_L_away : GoodIn wsL_areDrops (va_wsS RL 18 yL_away wsL_away) := goodIn_app (goodIn_of _ (by decide +kernel)) ggL_areDrops_L_away
set_option maxRecDepth 20000 in
theorem ggL_areDrops_X4_count : GoodIn wsL_areDrops wsX4_count := goodIn_r _ [82, 83, 84, 6, 85, 86, 87, 88, 89, 90, 91, 92, 93, 13, 94, 58, 95, 96, 97, 98, 16, 4, 17, 99, 100, 101, 102, 29, 30, 31, 32, 28, 103, 104, 105, 106, 59, 60, 61, 62, 52, 107, 108, 109, 110, 54, 55, 56, 57, 63, 64, 65, 66, 53, 67, 68, 69, 70, 51, 71, 72, 73, 74, 111, 112, 113, 114, 119, 120, 121, 122, 123, 124, 125, 138, 139, 140, 141, 126, 127, 128, 129, 130, 131, 132, 133, 134, 135, 136, 137] (by decide +kernel) (by decide +kernel)
set_option maxRecDepth 20000 in
theorem gL_areDrops_X4_count : GoodIn wsL_areDrops (wsV RL 23 RX4 yX4_count wsX4_count) := goodIn_app (goodIn_of _ (by decide +kernel)) ggL_areDrops_X4_count
set_option maxRecDepth 20000 in
theorem ggL_areDrops_X4_brush : GoodIn wsL_areDrops wsX4_brush := goodIn_r _ [118, 6, 18, 19, 20, 13, 21, 22, 4, 23, 24, 25, 26, 27, 28, 16, 17, 29, 30, 31, 32, 33, 34, 35, 36, 37, 38, 39, 40, 41, 42, 119, 120, 121, 122, 123, 124, 125, 126, 127, 128, 129, 130, 131, 132, 133, 134, 135, 136, 137] (by decide +kernel) (by decide +kernel)
set_option maxRecDepth 20000 in
theorem gL_areDrops_X4_brush : GoodIn wsL_areDrops (wsV RL 27 RX4 yX4_brush wsX4_brush) := goodIn_app (goodIn_of _ (by decide +kernel)) ggL_areDrops_X4_brush
theorem dL_areDrops_0 : decode cL_areDrops 0 = .ok (.iconst 0, 1) := by decide +kernel
theorem dL_areDrops_1 : decode cL_areDrops 1 = .ok (.istore_n 1, 1) := by decide +kernel
theorem dL_areDrops_2 : decode cL_areDrops 2 = .ok (.iconst 0, 1) := by decide +kernel
theorem dL_areDrops_3 : decode cL_areDrops 3 = .ok (.istore_n 2, 1) := by decide +kernel
theorem dL_areDrops_4 : decode cL_areDrops 4 = .ok (.iconst 0, 1) := by decide +kernel
theorem dL_areDrops_5 : decode cL_areDrops 5 = .ok (.istore_n 3, 1) := by decide +kernel
theorem dL_areDrops_6 : decode cL_areDrops 6 = .ok (.iconst 0, 1) := by decide +kernel
theorem dL_areDrops_7 : decode cL_areDrops 7 = .ok (.istore 4, 2) := by decide +kernel
theorem dL_areDrops_9 : decode cL_areDrops 9 = .ok (.iconst 1, 1) := by decide +kernel
theorem dL_areDrops_10 : decode cL_areDrops 10 = .ok (.istore 5, 2) := by decide +kernel
theorem dL_areDrops_12 : decode cL_areDrops 12 = .ok (.iconst 0, 1) := by decide +kernel
theorem dL_areDrops_13 : decode cL_areDrops 13 = .ok (.istore 6, 2) := by decide +kernel
theorem dL_areDrops_15 : decode cL_areDrops 15 = .ok (.iload 6, 2) := by decide +kernel
theorem dL_areDrops_17 : decode cL_areDrops 17 = .ok (.bipush 8, 2) := by decide +kernel
theorem dL_areDrops_19 : decode cL_areDrops 19 = .ok (.if_icmp .ge 142, 3) := by decide +kernel
theorem dL_areDrops_22 : decode cL_areDrops 22 = .ok (.iload 5, 2) := by decide +kernel
theorem dL_areDrops_24 : decode cL_areDrops 24 = .ok (.ifCond .eq 137, 3) := by decide +kernel
theorem dL_areDrops_27 : decode cL_areDrops 27 = .ok (.aload_n 0, 1) := by decide +kernel
theorem dL_areDrops_28 : decode cL_areDrops 28 = .ok (.iload 6, 2) := by decide +kernel
theorem dL_areDrops_30 : decode cL_areDrops 30 = .ok (.iconst 0, 1) := by decide +kernel
theorem dL_areDrops_31 : decode cL_areDrops 31 = .ok (.invokevirtual 9, 3) := by decide +kernel
theorem dL_areDrops_34 : decode cL_areDrops 34 = .ok (.aload_n 0, 1) := by decide +kernel
theorem dL_areDrops_35 : decode cL_areDrops 35 = .ok (.iload 6, 2) := by decide +kernel
theorem dL_areDrops_37 : decode cL_areDrops 37 = .ok (.iconst 1, 1) := by decide +kernel
theorem dL_areDrops_38 : decode cL_areDrops 38 = .ok (.invokevirtual 9, 3) := by decide +kernel
theorem dL_areDrops_41 : decode cL_areDrops 41 = .ok (.iadd, 1) := by decide +kernel
theorem dL_areDrops_42 : decode cL_areDrops 42 = .ok (.aload_n 0, 1) := by decide +kernel
theorem dL_areDrops_43 : decode cL_areDrops 43 = .ok (.iload 6, 2) := by decide +kernel
theorem dL_areDrops_45 : decode cL_areDrops 45 = .ok (.iconst 2, 1) := by decide +kernel
theorem dL_areDrops_46 : decode cL_areDrops 46 = .ok (.invokevirtual 9, 3) := by decide +kernel
theorem dL_areDrops_49 : decode cL_areDrops 49 = .ok (.iadd, 1) := by decide +kernel
theorem dL_areDrops_50 : decode cL_areDrops 50 = .ok (.aload_n 0, 1) := by decide +kernel
theorem dL_areDrops_51 : decode cL_areDrops 51 = .ok (.iload 6, 2) := by decide +kernel
theorem dL_areDrops_53 : decode cL_areDrops 53 = .ok (.iconst 3, 1) := by decide +kernel
theorem dL_areDrops_54 : decode cL_areDrops 54 = .ok (.invokevirtual 9, 3) := by decide +kernel
theorem dL_areDrops_57 : decode cL_areDrops 57 = .ok (.iadd, 1) := by decide +kernel
theorem dL_areDrops_58 : decode cL_areDrops 58 = .ok (.istore 7, 2) := by decide +kernel
theorem dL_areDrops_60 : decode cL_areDrops 60 = .ok (.iload_n 1, 1) := by decide +kernel
theorem dL_areDrops_61 : decode cL_areDrops 61 = .ok (.iload 7, 2) := by decide +kernel
theorem dL_areDrops_63 : decode cL_areDrops 63 = .ok (.iadd, 1) := by decide +kernel
theorem dL_areDrops_64 : decode cL_areDrops 64 = .ok (.istore_n 1, 1) := by decide +kernel
theorem dL_areDrops_65 : decode cL_areDrops 65 = .ok (.iload 7, 2) := by decide +kernel
theorem dL_areDrops_67 : decode cL_areDrops 67 = .ok (.aload_n 0, 1) := by decide +kernel
theorem dL_areDrops_68 : decode cL_areDrops 68 = .ok (.iload 6, 2) := by decide +kernel
theorem dL_areDrops_70 : decode cL_areDrops 70 = .ok (.iconst 4, 1) := by decide +kernel
theorem dL_areDrops_71 : decode cL_areDrops 71 = .ok (.invokevirtual 9, 3) := by decide +kernel
theorem dL_areDrops_74 : decode cL_areDrops 74 = .ok (.if_icmp .ne 14, 3) := by decide +kernel
theorem dL_areDrops_77 : decode cL_areDrops 77 = .ok (.iload 7, 2) := by decide +kernel
theorem dL_areDrops_79 : decode cL_areDrops 79 = .ok (.bipush 81, 2) := by decide +kernel
theorem dL_areDrops_81 : decode cL_areDrops 81 = .ok (.if_icmp .gt 7, 3) := by decide +kernel
theorem dL_areDrops_84 : decode cL_areDrops 84 = .ok (.iconst 1, 1) := by decide +kernel
theorem dL_areDrops_85 : decode cL_areDrops 85 = .ok (.goto 4, 3) := by decide +kernel
theorem dL_areDrops_88 : decode cL_areDrops 88 = .ok (.iconst 0, 1) := by decide +kernel
theorem dL_areDrops_89 : decode cL_areDrops 89 = .ok (.istore 5, 2) := by decide +kernel
theorem dL_areDrops_91 : decode cL_areDrops 91 = .ok (.iconst 0, 1) := by decide +kernel
theorem dL_areDrops_92 : decode cL_areDrops 92 = .ok (.istore 8, 2) := by decide +kernel
theorem dL_areDrops_94 : decode cL_areDrops 94 = .ok (.iload 8, 2) := by decide +kernel
theorem dL_areDrops_96 : decode cL_areDrops 96 = .ok (.iconst 3, 1) := by decide +kernel
theorem dL_areDrops_97 : decode cL_areDrops 97 = .ok (.if_icmp .ge 58, 3) := by decide +kernel
theorem dL_areDrops_100 : decode cL_areDrops 100 = .ok (.iload 5, 2) := by decide +kernel
theorem dL_areDrops_102 : decode cL_areDrops 102 = .ok (.ifCond .eq 53, 3) := by decide +kernel
theorem dL_areDrops_105 : decode cL_areDrops 105 = .ok (.aload_n 0, 1) := by decide +kernel
theorem dL_areDrops_106 : decode cL_areDrops 106 = .ok (.iload 6, 2) := by decide +kernel
theorem dL_areDrops_108 : decode cL_areDrops 108 = .ok (.iconst 5, 1) := by decide +kernel
theorem dL_areDrops_109 : decode cL_areDrops 109 = .ok (.iload 8, 2) := by decide +kernel
theorem dL_areDrops_111 : decode cL_areDrops 111 = .ok (.iadd, 1) := by decide +kernel
theorem dL_areDrops_112 : decode cL_areDrops 112 = .ok (.invokevirtual 9, 3) := by decide +kernel
theorem dL_areDrops_115 : decode cL_areDrops 115 = .ok (.iload 7, 2) := by decide +kernel
theorem dL_areDrops_117 : decode cL_areDrops 117 = .ok (.ifCond .ne 8, 3) := by decide +kernel
theorem dL_areDrops_120 : decode cL_areDrops 120 = .ok (.bipush (-6), 2) := by decide +kernel
theorem dL_areDrops_122 : decode cL_areDrops 122 = .ok (.goto 17, 3) := by decide +kernel
theorem dL_areDrops_125 : decode cL_areDrops 125 = .ok (.bipush 100, 2) := by decide +kernel
theorem dL_areDrops_127 : decode cL_areDrops 127 = .ok (.aload_n 0, 1) := by decide +kernel
theorem dL_areDrops_128 : decode cL_areDrops 128 = .ok (.iload 6, 2) := by decide +kernel
theorem dL_areDrops_130 : decode cL_areDrops 130 = .ok (.iload 8, 2) := by decide +kernel
theorem dL_areDrops_132 : decode cL_areDrops 132 = .ok (.invokevirtual 9, 3) := by decide +kernel
theorem dL_areDrops_135 : decode cL_areDrops 135 = .ok (.imul, 1) := by decide +kernel
theorem dL_areDrops_136 : decode cL_areDrops 136 = .ok (.iload 7, 2) := by decide +kernel
theorem dL_areDrops_138 : decode cL_areDrops 138 = .ok (.idiv, 1) := by decide +kernel
theorem dL_areDrops_139 : decode cL_areDrops 139 = .ok (.if_icmp .ne 7, 3) := by decide +kernel
theorem dL_areDrops_142 : decode cL_areDrops 142 = .ok (.iconst 1, 1) := by decide +kernel
theorem dL_areDrops_143 : decode cL_areDrops 143 = .ok (.goto 4, 3) := by decide +kernel
theorem dL_areDrops_146 : decode cL_areDrops 146 = .ok (.iconst 0, 1) := by decide +kernel
theorem dL_areDrops_147 : decode cL_areDrops 147 = .ok (.istore 5, 2) := by decide +kernel
theorem dL_areDrops_149 : decode cL_areDrops 149 = .ok (.iinc 8 1, 3) := by decide +kernel
theorem dL_areDrops_152 : decode cL_areDrops 152 = .ok (.goto (-58), 3) := by decide +kernel
theorem dL_areDrops_155 : decode cL_areDrops 155 = .ok (.iinc 6 1, 3) := by decide +kernel
theorem dL_areDrops_158 : decode cL_areDrops 158 = .ok (.goto (-143), 3) := by decide +kernel
theorem dL_areDrops_161 : decode cL_areDrops 161 = .ok (.iconst 0, 1) := by decide +kernel
theorem dL_areDrops_162 : decode cL_areDrops 162 = .ok (.istore 6, 2) := by decide +kernel
theorem dL_areDrops_164 : decode cL_areDrops 164 = .ok (.iload 6, 2) := by decide +kernel
theorem dL_areDrops_166 : decode cL_areDrops 166 = .ok (.bipush 6, 2) := by decide +kernel
theorem dL_areDrops_168 : decode cL_areDrops 168 = .ok (.if_icmp .ge 214, 3) := by decide +kernel
theorem dL_areDrops_171 : decode cL_areDrops 171 = .ok (.iload 5, 2) := by decide +kernel
theorem dL_areDrops_173 : decode cL_areDrops 173 = .ok (.ifCond .eq 209, 3) := by decide +kernel
theorem dL_areDrops_176 : decode cL_areDrops 176 = .ok (.aload_n 0, 1) := by decide +kernel
theorem dL_areDrops_177 : decode cL_areDrops 177 = .ok (.iload 6, 2) := by decide +kernel
theorem dL_areDrops_179 : decode cL_areDrops 179 = .ok (.iconst 3, 1) := by decide +kernel
theorem dL_areDrops_180 : decode cL_areDrops 180 = .ok (.invokevirtual 15, 3) := by decide +kernel
theorem dL_areDrops_183 : decode cL_areDrops 183 = .ok (.ifCond .lt 7, 3) := by decide +kernel
theorem dL_areDrops_186 : decode cL_areDrops 186 = .ok (.iconst 1, 1) := by decide +kernel
theorem dL_areDrops_187 : decode cL_areDrops 187 = .ok (.goto 4, 3) := by decide +kernel
theorem dL_areDrops_190 : decode cL_areDrops 190 = .ok (.iconst 0, 1) := by decide +kernel
theorem dL_areDrops_191 : decode cL_areDrops 191 = .ok (.istore 7, 2) := by decide +kernel
theorem dL_areDrops_193 : decode cL_areDrops 193 = .ok (.iload 7, 2) := by decide +kernel
theorem dL_areDrops_195 : decode cL_areDrops 195 = .ok (.ifCond .eq 59, 3) := by decide +kernel
theorem dL_areDrops_198 : decode cL_areDrops 198 = .ok (.aload_n 0, 1) := by decide +kernel
theorem dL_areDrops_199 : decode cL_areDrops 199 = .ok (.iload 6, 2) := by decide +kernel
theorem dL_areDrops_201 : decode cL_areDrops 201 = .ok (.iconst 3, 1) := by decide +kernel
theorem dL_areDrops_202 : decode cL_areDrops 202 = .ok (.invokevirtual 15, 3) := by decide +kernel
theorem dL_areDrops_205 : decode cL_areDrops 205 = .ok (.aload_n 0, 1) := by decide +kernel
theorem dL_areDrops_206 : decode cL_areDrops 206 = .ok (.iload 6, 2) := by decide +kernel
theorem dL_areDrops_208 : decode cL_areDrops 208 = .ok (.iconst 0, 1) := by decide +kernel
theorem dL_areDrops_209 : decode cL_areDrops 209 = .ok (.invokevirtual 15, 3) := by decide +kernel
theorem dL_areDrops_212 : decode cL_areDrops 212 = .ok (.invokestatic 18, 3) := by decide +kernel
theorem dL_areDrops_215 : decode cL_areDrops 215 = .ok (.aload_n 0, 1) := by decide +kernel
theorem dL_areDrops_216 : decode cL_areDrops 216 = .ok (.iload 6, 2) := by decide +kernel
theorem dL_areDrops_218 : decode cL_areDrops 218 = .ok (.iconst 4, 1) := by decide +kernel
theorem dL_areDrops_219 : decode cL_areDrops 219 = .ok (.invokevirtual 15, 3) := by decide +kernel
theorem dL_areDrops_222 : decode cL_areDrops 222 = .ok (.aload_n 0, 1) := by decide +kernel
theorem dL_areDrops_223 : decode cL_areDrops 223 = .ok (.iload 6, 2) := by decide +kernel
theorem dL_areDrops_225 : decode cL_areDrops 225 = .ok (.iconst 1, 1) := by decide +kernel
theorem dL_areDrops_226 : decode cL_areDrops 226 = .ok (.invokevirtual 15, 3) := by decide +kernel
theorem dL_areDrops_229 : decode cL_areDrops 229 = .ok (.invokestatic 18, 3) := by decide +kernel
theorem dL_areDrops_232 : decode cL_areDrops 232 = .ok (.iadd, 1) := by decide +kernel
theorem dL_areDrops_233 : decode cL_areDrops 233 = .ok (.aload_n 0, 1) := by decide +kernel
theorem dL_areDrops_234 : decode cL_areDrops 234 = .ok (.iload 6, 2) := by decide +kernel
theorem dL_areDrops_236 : decode cL_areDrops 236 = .ok (.iconst 5, 1) := by decide +kernel
theorem dL_areDrops_237 : decode cL_areDrops 237 = .ok (.invokevirtual 15, 3) := by decide +kernel
theorem dL_areDrops_240 : decode cL_areDrops 240 = .ok (.aload_n 0, 1) := by decide +kernel
theorem dL_areDrops_241 : decode cL_areDrops 241 = .ok (.iload 6, 2) := by decide +kernel
theorem dL_areDrops_243 : decode cL_areDrops 243 = .ok (.iconst 2, 1) := by decide +kernel
theorem dL_areDrops_244 : decode cL_areDrops 244 = .ok (.invokevirtual 15, 3) := by decide +kernel
theorem dL_areDrops_247 : decode cL_areDrops 247 = .ok (.invokestatic 18, 3) := by decide +kernel
theorem dL_areDrops_250 : decode cL_areDrops 250 = .ok (.iadd, 1) := by decide +kernel
theorem dL_areDrops_251 : decode cL_areDrops 251 = .ok (.goto 5, 3) := by decide +kernel
theorem dL_areDrops_254 : decode cL_areDrops 254 = .ok (.bipush (-6), 2) := by decide +kernel
theorem dL_areDrops_256 : decode cL_areDrops 256 = .ok (.istore 8, 2) := by decide +kernel
theorem dL_areDrops_258 : decode cL_areDrops 258 = .ok (.iload_n 3, 1) := by decide +kernel
theorem dL_areDrops_259 : decode cL_areDrops 259 = .ok (.iload 7, 2) := by decide +kernel
theorem dL_areDrops_261 : decode cL_areDrops 261 = .ok (.ifCond .eq 7, 3) := by decide +kernel
theorem dL_areDrops_264 : decode cL_areDrops 264 = .ok (.iconst 1, 1) := by decide +kernel
theorem dL_areDrops_265 : decode cL_areDrops 265 = .ok (.goto 4, 3) := by decide +kernel
theorem dL_areDrops_268 : decode cL_areDrops 268 = .ok (.iconst 0, 1) := by decide +kernel
theorem dL_areDrops_269 : decode cL_areDrops 269 = .ok (.iadd, 1) := by decide +kernel
theorem dL_areDrops_270 : decode cL_areDrops 270 = .ok (.istore_n 3, 1) := by decide +kernel
theorem dL_areDrops_271 : decode cL_areDrops 271 = .ok (.iload_n 2, 1) := by decide +kernel
theorem dL_areDrops_272 : decode cL_areDrops 272 = .ok (.aload_n 0, 1) := by decide +kernel
theorem dL_areDrops_273 : decode cL_areDrops 273 = .ok (.iload 6, 2) := by decide +kernel
theorem dL_areDrops_275 : decode cL_areDrops 275 = .ok (.bipush 7, 2) := by decide +kernel
theorem dL_areDrops_277 : decode cL_areDrops 277 = .ok (.invokevirtual 15, 3) := by decide +kernel
theorem dL_areDrops_280 : decode cL_areDrops 280 = .ok (.iadd, 1) := by decide +kernel
theorem dL_areDrops_281 : decode cL_areDrops 281 = .ok (.istore_n 2, 1) := by decide +kernel
theorem dL_areDrops_282 : decode cL_areDrops 282 = .ok (.iload 4, 2) := by decide +kernel
theorem dL_areDrops_284 : decode cL_areDrops 284 = .ok (.aload_n 0, 1) := by decide +kernel
theorem dL_areDrops_285 : decode cL_areDrops 285 = .ok (.iload 6, 2) := by decide +kernel
theorem dL_areDrops_287 : decode cL_areDrops 287 = .ok (.bipush 8, 2) := by decide +kernel
theorem dL_areDrops_289 : decode cL_areDrops 289 = .ok (.invokevirtual 15, 3) := by decide +kernel
theorem dL_areDrops_292 : decode cL_areDrops 292 = .ok (.iadd, 1) := by decide +kernel
theorem dL_areDrops_293 : decode cL_areDrops 293 = .ok (.istore 4, 2) := by decide +kernel
theorem dL_areDrops_295 : decode cL_areDrops 295 = .ok (.aload_n 0, 1) := by decide +kernel
theorem dL_areDrops_296 : decode cL_areDrops 296 = .ok (.iload 6, 2) := by decide +kernel
theorem dL_areDrops_298 : decode cL_areDrops 298 = .ok (.bipush 6, 2) := by decide +kernel
theorem dL_areDrops_300 : decode cL_areDrops 300 = .ok (.invokevirtual 15, 3) := by decide +kernel
theorem dL_areDrops_303 : decode cL_areDrops 303 = .ok (.iload 8, 2) := by decide +kernel
theorem dL_areDrops_305 : decode cL_areDrops 305 = .ok (.if_icmp .ne 68, 3) := by decide +kernel
theorem dL_areDrops_308 : decode cL_areDrops 308 = .ok (.aload_n 0, 1) := by decide +kernel
theorem dL_areDrops_309 : decode cL_areDrops 309 = .ok (.iload 6, 2) := by decide +kernel
theorem dL_areDrops_311 : decode cL_areDrops 311 = .ok (.bipush 7, 2) := by decide +kernel
theorem dL_areDrops_313 : decode cL_areDrops 313 = .ok (.invokevirtual 15, 3) := by decide +kernel
theorem dL_areDrops_316 : decode cL_areDrops 316 = .ok (.iconst 1, 1) := by decide +kernel
theorem dL_areDrops_317 : decode cL_areDrops 317 = .ok (.if_icmp .ne 7, 3) := by decide +kernel
theorem dL_areDrops_320 : decode cL_areDrops 320 = .ok (.iconst 1, 1) := by decide +kernel
theorem dL_areDrops_321 : decode cL_areDrops 321 = .ok (.goto 4, 3) := by decide +kernel
theorem dL_areDrops_324 : decode cL_areDrops 324 = .ok (.iconst 0, 1) := by decide +kernel
theorem dL_areDrops_325 : decode cL_areDrops 325 = .ok (.iload 7, 2) := by decide +kernel
theorem dL_areDrops_327 : decode cL_areDrops 327 = .ok (.ifCond .eq 17, 3) := by decide +kernel
theorem dL_areDrops_330 : decode cL_areDrops 330 = .ok (.iload 8, 2) := by decide +kernel
theorem dL_areDrops_332 : decode cL_areDrops 332 = .ok (.aload_n 0, 1) := by decide +kernel
theorem dL_areDrops_333 : decode cL_areDrops 333 = .ok (.iconst 1, 1) := by decide +kernel
theorem dL_areDrops_334 : decode cL_areDrops 334 = .ok (.invokevirtual 23, 3) := by decide +kernel
theorem dL_areDrops_337 : decode cL_areDrops 337 = .ok (.if_icmp .gt 7, 3) := by decide +kernel
theorem dL_areDrops_340 : decode cL_areDrops 340 = .ok (.iconst 1, 1) := by decide +kernel
theorem dL_areDrops_341 : decode cL_areDrops 341 = .ok (.goto 4, 3) := by decide +kernel
theorem dL_areDrops_344 : decode cL_areDrops 344 = .ok (.iconst 0, 1) := by decide +kernel
theorem dL_areDrops_345 : decode cL_areDrops 345 = .ok (.if_icmp .ne 28, 3) := by decide +kernel
theorem dL_areDrops_348 : decode cL_areDrops 348 = .ok (.iload 7, 2) := by decide +kernel
theorem dL_areDrops_350 : decode cL_areDrops 350 = .ok (.aload_n 0, 1) := by decide +kernel
theorem dL_areDrops_351 : decode cL_areDrops 351 = .ok (.iload 6, 2) := by decide +kernel
theorem dL_areDrops_353 : decode cL_areDrops 353 = .ok (.bipush 8, 2) := by decide +kernel
theorem dL_areDrops_355 : decode cL_areDrops 355 = .ok (.invokevirtual 15, 3) := by decide +kernel
theorem dL_areDrops_358 : decode cL_areDrops 358 = .ok (.ifCond .le 7, 3) := by decide +kernel
theorem dL_areDrops_361 : decode cL_areDrops 361 = .ok (.iconst 1, 1) := by decide +kernel
theorem dL_areDrops_362 : decode cL_areDrops 362 = .ok (.goto 4, 3) := by decide +kernel
theorem dL_areDrops_365 : decode cL_areDrops 365 = .ok (.iconst 0, 1) := by decide +kernel
theorem dL_areDrops_366 : decode cL_areDrops 366 = .ok (.if_icmp .ne 7, 3) := by decide +kernel
theorem dL_areDrops_369 : decode cL_areDrops 369 = .ok (.iconst 1, 1) := by decide +kernel
theorem dL_areDrops_370 : decode cL_areDrops 370 = .ok (.goto 4, 3) := by decide +kernel
theorem dL_areDrops_373 : decode cL_areDrops 373 = .ok (.iconst 0, 1) := by decide +kernel
theorem dL_areDrops_374 : decode cL_areDrops 374 = .ok (.istore 5, 2) := by decide +kernel
theorem dL_areDrops_376 : decode cL_areDrops 376 = .ok (.iinc 6 1, 3) := by decide +kernel
theorem dL_areDrops_379 : decode cL_areDrops 379 = .ok (.goto (-215), 3) := by decide +kernel
theorem dL_areDrops_382 : decode cL_areDrops 382 = .ok (.aload_n 0, 1) := by decide +kernel
theorem dL_areDrops_383 : decode cL_areDrops 383 = .ok (.iconst 0, 1) := by decide +kernel
theorem dL_areDrops_384 : decode cL_areDrops 384 = .ok (.invokevirtual 27, 3) := by decide +kernel
theorem dL_areDrops_387 : decode cL_areDrops 387 = .ok (.aload_n 0, 1) := by decide +kernel
theorem dL_areDrops_388 : decode cL_areDrops 388 = .ok (.iconst 1, 1) := by decide +kernel
theorem dL_areDrops_389 : decode cL_areDrops 389 = .ok (.invokevirtual 27, 3) := by decide +kernel
theorem dL_areDrops_392 : decode cL_areDrops 392 = .ok (.iadd, 1) := by decide +kernel
theorem dL_areDrops_393 : decode cL_areDrops 393 = .ok (.aload_n 0, 1) := by decide +kernel
theorem dL_areDrops_394 : decode cL_areDrops 394 = .ok (.iconst 2, 1) := by decide +kernel
theorem dL_areDrops_395 : decode cL_areDrops 395 = .ok (.invokevirtual 27, 3) := by decide +kernel
theorem dL_areDrops_398 : decode cL_areDrops 398 = .ok (.iadd, 1) := by decide +kernel
theorem dL_areDrops_399 : decode cL_areDrops 399 = .ok (.aload_n 0, 1) := by decide +kernel
theorem dL_areDrops_400 : decode cL_areDrops 400 = .ok (.iconst 3, 1) := by decide +kernel
theorem dL_areDrops_401 : decode cL_areDrops 401 = .ok (.invokevirtual 27, 3) := by decide +kernel
theorem dL_areDrops_404 : decode cL_areDrops 404 = .ok (.iadd, 1) := by decide +kernel
theorem dL_areDrops_405 : decode cL_areDrops 405 = .ok (.istore 6, 2) := by decide +kernel
theorem dL_areDrops_407 : decode cL_areDrops 407 = .ok (.iload 5, 2) := by decide +kernel
theorem dL_areDrops_409 : decode cL_areDrops 409 = .ok (.ifCond .eq 92, 3) := by decide +kernel
theorem dL_areDrops_412 : decode cL_areDrops 412 = .ok (.iload 6, 2) := by decide +kernel
theorem dL_areDrops_414 : decode cL_areDrops 414 = .ok (.aload_n 0, 1) := by decide +kernel
theorem dL_areDrops_415 : decode cL_areDrops 415 = .ok (.iconst 4, 1) := by decide +kernel
theorem dL_areDrops_416 : decode cL_areDrops 416 = .ok (.invokevirtual 27, 3) := by decide +kernel
theorem dL_areDrops_419 : decode cL_areDrops 419 = .ok (.if_icmp .ne 82, 3) := by decide +kernel
theorem dL_areDrops_422 : decode cL_areDrops 422 = .ok (.iload 6, 2) := by decide +kernel
theorem dL_areDrops_424 : decode cL_areDrops 424 = .ok (.bipush 9, 2) := by decide +kernel
theorem dL_areDrops_426 : decode cL_areDrops 426 = .ok (.if_icmp .gt 75, 3) := by decide +kernel
theorem dL_areDrops_429 : decode cL_areDrops 429 = .ok (.iload_n 1, 1) := by decide +kernel
theorem dL_areDrops_430 : decode cL_areDrops 430 = .ok (.aload_n 0, 1) := by decide +kernel
theorem dL_areDrops_431 : decode cL_areDrops 431 = .ok (.iconst 3, 1) := by decide +kernel
theorem dL_areDrops_432 : decode cL_areDrops 432 = .ok (.invokevirtual 23, 3) := by decide +kernel
theorem dL_areDrops_435 : decode cL_areDrops 435 = .ok (.if_icmp .ne 66, 3) := by decide +kernel
theorem dL_areDrops_438 : decode cL_areDrops 438 = .ok (.iload_n 3, 1) := by decide +kernel
theorem dL_areDrops_439 : decode cL_areDrops 439 = .ok (.aload_n 0, 1) := by decide +kernel
theorem dL_areDrops_440 : decode cL_areDrops 440 = .ok (.bipush 6, 2) := by decide +kernel
theorem dL_areDrops_442 : decode cL_areDrops 442 = .ok (.invokevirtual 23, 3) := by decide +kernel
theorem dL_areDrops_445 : decode cL_areDrops 445 = .ok (.if_icmp .ne 56, 3) := by decide +kernel
theorem dL_areDrops_448 : decode cL_areDrops 448 = .ok (.iload_n 2, 1) := by decide +kernel
theorem dL_areDrops_449 : decode cL_areDrops 449 = .ok (.aload_n 0, 1) := by decide +kernel
theorem dL_areDrops_450 : decode cL_areDrops 450 = .ok (.bipush 7, 2) := by decide +kernel
theorem dL_areDrops_452 : decode cL_areDrops 452 = .ok (.invokevirtual 23, 3) := by decide +kernel
theorem dL_areDrops_455 : decode cL_areDrops 455 = .ok (.if_icmp .ne 46, 3) := by decide +kernel
theorem dL_areDrops_458 : decode cL_areDrops 458 = .ok (.iload 4, 2) := by decide +kernel
theorem dL_areDrops_460 : decode cL_areDrops 460 = .ok (.aload_n 0, 1) := by decide +kernel
theorem dL_areDrops_461 : decode cL_areDrops 461 = .ok (.bipush 8, 2) := by decide +kernel
theorem dL_areDrops_463 : decode cL_areDrops 463 = .ok (.invokevirtual 23, 3) := by decide +kernel
theorem dL_areDrops_466 : decode cL_areDrops 466 = .ok (.if_icmp .ne 35, 3) := by decide +kernel
theorem dL_areDrops_469 : decode cL_areDrops 469 = .ok (.aload_n 0, 1) := by decide +kernel
theorem dL_areDrops_470 : decode cL_areDrops 470 = .ok (.iconst 2, 1) := by decide +kernel
theorem dL_areDrops_471 : decode cL_areDrops 471 = .ok (.invokevirtual 23, 3) := by decide +kernel
theorem dL_areDrops_474 : decode cL_areDrops 474 = .ok (.aload_n 0, 1) := by decide +kernel
theorem dL_areDrops_475 : decode cL_areDrops 475 = .ok (.iconst 3, 1) := by decide +kernel
theorem dL_areDrops_476 : decode cL_areDrops 476 = .ok (.invokevirtual 23, 3) := by decide +kernel
theorem dL_areDrops_479 : decode cL_areDrops 479 = .ok (.aload_n 0, 1) := by decide +kernel
theorem dL_areDrops_480 : decode cL_areDrops 480 = .ok (.iconst 4, 1) := by decide +kernel
theorem dL_areDrops_481 : decode cL_areDrops 481 = .ok (.invokevirtual 23, 3) := by decide +kernel
theorem dL_areDrops_484 : decode cL_areDrops 484 = .ok (.iadd, 1) := by decide +kernel
theorem dL_areDrops_485 : decode cL_areDrops 485 = .ok (.aload_n 0, 1) := by decide +kernel
theorem dL_areDrops_486 : decode cL_areDrops 486 = .ok (.iconst 5, 1) := by decide +kernel
theorem dL_areDrops_487 : decode cL_areDrops 487 = .ok (.invokevirtual 23, 3) := by decide +kernel
theorem dL_areDrops_490 : decode cL_areDrops 490 = .ok (.iadd, 1) := by decide +kernel
theorem dL_areDrops_491 : decode cL_areDrops 491 = .ok (.iload 6, 2) := by decide +kernel
theorem dL_areDrops_493 : decode cL_areDrops 493 = .ok (.iadd, 1) := by decide +kernel
theorem dL_areDrops_494 : decode cL_areDrops 494 = .ok (.if_icmp .ne 7, 3) := by decide +kernel
theorem dL_areDrops_497 : decode cL_areDrops 497 = .ok (.iconst 1, 1) := by decide +kernel
theorem dL_areDrops_498 : decode cL_areDrops 498 = .ok (.goto 4, 3) := by decide +kernel
theorem dL_areDrops_501 : decode cL_areDrops 501 = .ok (.iconst 0, 1) := by decide +kernel
theorem dL_areDrops_502 : decode cL_areDrops 502 = .ok (.ireturn, 1) := by decide +kernel
set_option maxRecDepth 20000 in
theorem ggL_areNear_X4_count : GoodIn wsL_areNear wsX4_count := goodIn_r _ [5, 6, 7, 8, 9, 10, 11, 12, 13, 14, 15, 16, 17, 18, 19, 20, 21, 22, 23, 24, 25, 4, 26, 27, 28, 29, 30, 31, 32, 33, 34, 35, 36, 37, 38, 39, 40, 41, 42, 43, 44, 45, 46, 47, 48, 49, 50, 51, 52, 53, 54, 55, 56, 57, 58, 59, 60, 61, 62, 63, 64, 65, 66, 67, 68, 69, 70, 164, 165, 166, 167, 168, 169, 170, 171, 172, 173, 174, 175, 176, 177, 178, 179, 180, 181, 182, 183, 184, 185, 186] (by decide +kernel) (by decide +kernel)
set_option maxRecDepth 20000 in
theorem gL_areNear_X4_count : GoodIn wsL_areNear (wsV RL 23 RX4 yX4_count wsX4_count) := goodIn_app (goodIn_of _ (by decide +kernel)) ggL_areNear_X4_count
set_option maxRecDepth 20000 in
theorem ggL_areNear_X4_bestOrder : GoodIn wsL_areNear wsX4_bestOrder := goodIn_r _ [74, 75, 76, 77, 4, 78, 79, 80, 81, 82, 83, 84, 85, 86, 87, 88, 89, 90, 91, 92, 93, 94, 95, 96, 97, 18, 98, 31, 32, 33, 34, 35, 99, 100, 101, 102, 103, 104, 105, 106, 25, 26, 107, 108, 58, 59, 60, 61, 62, 63, 64, 65, 66, 109, 110, 111, 112, 113, 114, 164, 165, 166, 167, 168, 169, 170, 187, 188, 189, 190, 191, 192, 175, 176, 177, 178, 179, 180, 181, 182, 183, 184, 185, 186] (by decide +kernel) (by decide +kernel)
set_option maxRecDepth 20000 in
theorem gL_areNear_X4_bestOrder : GoodIn wsL_areNear (wsV RL 30 RX4 yX4_bestOrder wsX4_bestOrder) := goodIn_app (goodIn_of _ (by decide +kernel)) ggL_areNear_X4_bestOrder
set_option maxRecDepth 20000 in
theorem ggL_areNear_X4_rinses : GoodIn wsL_areNear wsX4_rinses := goodIn_r _ [118, 75, 76, 77, 4, 78, 119, 120, 121, 82, 122, 84, 86, 87, 88, 89, 90, 91, 92, 93, 94, 95, 96, 97, 18, 98, 31, 32, 33, 34, 35, 99, 100, 101, 102, 103, 104, 105, 106, 25, 26, 107, 108, 58, 59, 60, 61, 62, 63, 64, 65, 66, 109, 110, 164, 165, 166, 167, 168, 169, 170, 187, 188, 189, 190, 191, 192, 175, 176, 177, 178, 179, 180, 181, 182, 183, 184, 185, 186] (by decide +kernel) (by decide +kernel)
set_option maxRecDepth 20000 in
theorem gL_areNear_X4_rinses : GoodIn wsL_areNear (wsV RL 33 RX4 yX4_rinses wsX4_rinses) := goodIn_app (goodIn_of _ (by decide +kernel)) ggL_areNear_X4_rinses
set_option maxRecDepth 20000 in
theorem ggL_areNear_X4_nearest : GoodIn wsL_areNear wsX4_nearest := goodIn_r _ [126, 75, 8, 76, 77, 4, 78, 127, 91, 92, 82, 93, 94, 95, 96, 97, 18, 98, 31, 32, 33, 34, 35, 99, 100, 101, 102, 103, 104, 105, 106, 25, 26, 107, 108, 58, 59, 60, 61, 62, 63, 64, 65, 66, 128, 164, 165, 166, 167, 168, 169, 170, 187, 188, 189, 190, 191, 192, 175, 176, 177, 178, 179, 180, 181, 182, 183, 184, 185, 186] (by decide +kernel) (by decide +kernel)
set_option maxRecDepth 20000 in
theorem gL_areNear_X4_nearest : GoodIn wsL_areNear (wsV RL 36 RX4 yX4_nearest wsX4_nearest) := goodIn_app (goodIn_of _ (by decide +kernel)) ggL_areNear_X4_nearest
set_option maxRecDepth 20000 in
theorem ggL_areNear_X4_pot : GoodIn wsL_areNear wsX4_pot := goodIn_r _ [132, 8, 76, 77, 4, 78, 133, 134, 135, 18, 136, 137, 25, 26, 138, 139, 140, 141, 142, 143, 144, 145, 146, 147, 35, 31, 32, 33, 34, 148, 96, 97, 98, 103, 104, 105, 106, 107, 108, 164, 165, 166, 167, 168, 169, 170, 175, 176, 177, 178, 179, 180, 181, 182, 183, 184, 185, 186] (by decide +kernel) (by decide +kernel)
set_option maxRecDepth 20000 in
theorem gL_areNear_X4_pot : GoodIn wsL_areNear (wsV RL 9 RX4 yX4_pot wsX4_pot) := goodIn_app (goodIn_of _ (by decide +kernel)) ggL_areNear_X4_pot
set_option maxRecDepth 20000 in
theorem ggL_areNear_L_far : GoodIn wsL_areNear wsL_far := goodIn_r _ [152, 129, 130, 131, 4, 132, 8, 76, 77, 78, 133, 134, 135, 18, 136, 137, 25, 26, 138, 139, 140, 141, 142, 143, 144, 145, 146, 147, 35, 31, 32, 33, 34, 148, 96, 97, 98, 103, 104, 105, 106, 107, 108, 153, 154, 155, 156, 157, 158, 159, 160, 62, 44, 57, 49, 50, 51, 52, 20, 40, 41, 42, 43, 53, 54, 55, 56, 58, 59, 60, 61, 63, 64, 65, 66, 161, 162, 151, 163, 164, 165, 166, 167, 168, 169, 170, 175, 176, 177, 178, 179, 180, 181, 182, 183, 184, 185, 186] (by decide +kernel) (by decide +kernel)
set_option maxRecDepth 20000 in
theorem gL_areNear_L_far : GoodIn wsL_areNear (va_wsS RL 39 yL_far wsL_far) := goodIn_app (goodIn_of _ (by decide +kernel)) ggL_areNear_L_far
theorem dL_areNear_0 : decode cL_areNear 0 = .ok (.iconst 0, 1) := by decide +kernel
theorem dL_areNear_1 : decode cL_areNear 1 = .ok (.istore_n 1, 1) := by decide +kernel
theorem dL_areNear_2 : decode cL_areNear 2 = .ok (.iconst 0, 1) := by decide +kernel
theorem dL_areNear_3 : decode cL_areNear 3 = .ok (.istore_n 2, 1) := by decide +kernel
theorem dL_areNear_4 : decode cL_areNear 4 = .ok (.iconst 0, 1) := by decide +kernel
theorem dL_areNear_5 : decode cL_areNear 5 = .ok (.istore_n 3, 1) := by decide +kernel
theorem dL_areNear_6 : decode cL_areNear 6 = .ok (.aload_n 0, 1) := by decide +kernel
theorem dL_areNear_7 : decode cL_areNear 7 = .ok (.iconst 3, 1) := by decide +kernel
theorem dL_areNear_8 : decode cL_areNear 8 = .ok (.invokevirtual 23, 3) := by decide +kernel
theorem dL_areNear_11 : decode cL_areNear 11 = .ok (.ifCond .le 7, 3) := by decide +kernel
theorem dL_areNear_14 : decode cL_areNear 14 = .ok (.iconst 1, 1) := by decide +kernel
theorem dL_areNear_15 : decode cL_areNear 15 = .ok (.goto 4, 3) := by decide +kernel
theorem dL_areNear_18 : decode cL_areNear 18 = .ok (.iconst 0, 1) := by decide +kernel
theorem dL_areNear_19 : decode cL_areNear 19 = .ok (.istore 4, 2) := by decide +kernel
theorem dL_areNear_21 : decode cL_areNear 21 = .ok (.iload 4, 2) := by decide +kernel
theorem dL_areNear_23 : decode cL_areNear 23 = .ok (.ifCond .ne 34, 3) := by decide +kernel
theorem dL_areNear_26 : decode cL_areNear 26 = .ok (.aload_n 0, 1) := by decide +kernel
theorem dL_areNear_27 : decode cL_areNear 27 = .ok (.iconst 0, 1) := by decide +kernel
theorem dL_areNear_28 : decode cL_areNear 28 = .ok (.invokevirtual 30, 3) := by decide +kernel
theorem dL_areNear_31 : decode cL_areNear 31 = .ok (.bipush (-6), 2) := by decide +kernel
theorem dL_areNear_33 : decode cL_areNear 33 = .ok (.if_icmp .ne 28, 3) := by decide +kernel
theorem dL_areNear_36 : decode cL_areNear 36 = .ok (.aload_n 0, 1) := by decide +kernel
theorem dL_areNear_37 : decode cL_areNear 37 = .ok (.iconst 0, 1) := by decide +kernel
theorem dL_areNear_38 : decode cL_areNear 38 = .ok (.invokevirtual 33, 3) := by decide +kernel
theorem dL_areNear_41 : decode cL_areNear 41 = .ok (.bipush (-6), 2) := by decide +kernel
theorem dL_areNear_43 : decode cL_areNear 43 = .ok (.if_icmp .ne 18, 3) := by decide +kernel
theorem dL_areNear_46 : decode cL_areNear 46 = .ok (.aload_n 0, 1) := by decide +kernel
theorem dL_areNear_47 : decode cL_areNear 47 = .ok (.iconst 0, 1) := by decide +kernel
theorem dL_areNear_48 : decode cL_areNear 48 = .ok (.iconst 0, 1) := by decide +kernel
theorem dL_areNear_49 : decode cL_areNear 49 = .ok (.invokevirtual 36, 3) := by decide +kernel
theorem dL_areNear_52 : decode cL_areNear 52 = .ok (.bipush (-6), 2) := by decide +kernel
theorem dL_areNear_54 : decode cL_areNear 54 = .ok (.if_icmp .ne 7, 3) := by decide +kernel
theorem dL_areNear_57 : decode cL_areNear 57 = .ok (.iconst 1, 1) := by decide +kernel
theorem dL_areNear_58 : decode cL_areNear 58 = .ok (.goto 4, 3) := by decide +kernel
theorem dL_areNear_61 : decode cL_areNear 61 = .ok (.iconst 0, 1) := by decide +kernel
theorem dL_areNear_62 : decode cL_areNear 62 = .ok (.istore 5, 2) := by decide +kernel
theorem dL_areNear_64 : decode cL_areNear 64 = .ok (.iconst 0, 1) := by decide +kernel
theorem dL_areNear_65 : decode cL_areNear 65 = .ok (.istore 6, 2) := by decide +kernel
theorem dL_areNear_67 : decode cL_areNear 67 = .ok (.iload 6, 2) := by decide +kernel
theorem dL_areNear_69 : decode cL_areNear 69 = .ok (.bipush 6, 2) := by decide +kernel
theorem dL_areNear_71 : decode cL_areNear 71 = .ok (.if_icmp .ge 237, 3) := by decide +kernel
theorem dL_areNear_74 : decode cL_areNear 74 = .ok (.iload 5, 2) := by decide +kernel
theorem dL_areNear_76 : decode cL_areNear 76 = .ok (.ifCond .eq 232, 3) := by decide +kernel
theorem dL_areNear_79 : decode cL_areNear 79 = .ok (.iload 4, 2) := by decide +kernel
theorem dL_areNear_81 : decode cL_areNear 81 = .ok (.ifCond .eq 227, 3) := by decide +kernel
theorem dL_areNear_84 : decode cL_areNear 84 = .ok (.aload_n 0, 1) := by decide +kernel
theorem dL_areNear_85 : decode cL_areNear 85 = .ok (.iload 6, 2) := by decide +kernel
theorem dL_areNear_87 : decode cL_areNear 87 = .ok (.iconst 0, 1) := by decide +kernel
theorem dL_areNear_88 : decode cL_areNear 88 = .ok (.invokevirtual 36, 3) := by decide +kernel
theorem dL_areNear_91 : decode cL_areNear 91 = .ok (.istore 7, 2) := by decide +kernel
theorem dL_areNear_93 : decode cL_areNear 93 = .ok (.aload_n 0, 1) := by decide +kernel
theorem dL_areNear_94 : decode cL_areNear 94 = .ok (.iload 6, 2) := by decide +kernel
theorem dL_areNear_96 : decode cL_areNear 96 = .ok (.iconst 1, 1) := by decide +kernel
theorem dL_areNear_97 : decode cL_areNear 97 = .ok (.invokevirtual 36, 3) := by decide +kernel
theorem dL_areNear_100 : decode cL_areNear 100 = .ok (.istore 8, 2) := by decide +kernel
theorem dL_areNear_102 : decode cL_areNear 102 = .ok (.aload_n 0, 1) := by decide +kernel
theorem dL_areNear_103 : decode cL_areNear 103 = .ok (.iload 7, 2) := by decide +kernel
theorem dL_areNear_105 : decode cL_areNear 105 = .ok (.iconst 4, 1) := by decide +kernel
theorem dL_areNear_106 : decode cL_areNear 106 = .ok (.invokevirtual 9, 3) := by decide +kernel
theorem dL_areNear_109 : decode cL_areNear 109 = .ok (.ifCond .le 20, 3) := by decide +kernel
theorem dL_areNear_112 : decode cL_areNear 112 = .ok (.aload_n 0, 1) := by decide +kernel
theorem dL_areNear_113 : decode cL_areNear 113 = .ok (.iload 6, 2) := by decide +kernel
theorem dL_areNear_115 : decode cL_areNear 115 = .ok (.iload 7, 2) := by decide +kernel
theorem dL_areNear_117 : decode cL_areNear 117 = .ok (.invokestatic 39, 3) := by decide +kernel
theorem dL_areNear_120 : decode cL_areNear 120 = .ok (.iload 8, 2) := by decide +kernel
theorem dL_areNear_122 : decode cL_areNear 122 = .ok (.if_icmp .ne 7, 3) := by decide +kernel
theorem dL_areNear_125 : decode cL_areNear 125 = .ok (.iconst 1, 1) := by decide +kernel
theorem dL_areNear_126 : decode cL_areNear 126 = .ok (.goto 4, 3) := by decide +kernel
theorem dL_areNear_129 : decode cL_areNear 129 = .ok (.iconst 0, 1) := by decide +kernel
theorem dL_areNear_130 : decode cL_areNear 130 = .ok (.istore 5, 2) := by decide +kernel
theorem dL_areNear_132 : decode cL_areNear 132 = .ok (.iconst 0, 1) := by decide +kernel
theorem dL_areNear_133 : decode cL_areNear 133 = .ok (.istore 9, 2) := by decide +kernel
theorem dL_areNear_135 : decode cL_areNear 135 = .ok (.iload 9, 2) := by decide +kernel
theorem dL_areNear_137 : decode cL_areNear 137 = .ok (.bipush 8, 2) := by decide +kernel
theorem dL_areNear_139 : decode cL_areNear 139 = .ok (.if_icmp .ge 64, 3) := by decide +kernel
theorem dL_areNear_142 : decode cL_areNear 142 = .ok (.iload 5, 2) := by decide +kernel
theorem dL_areNear_144 : decode cL_areNear 144 = .ok (.ifCond .eq 59, 3) := by decide +kernel
theorem dL_areNear_147 : decode cL_areNear 147 = .ok (.aload_n 0, 1) := by decide +kernel
theorem dL_areNear_148 : decode cL_areNear 148 = .ok (.iload 9, 2) := by decide +kernel
theorem dL_areNear_150 : decode cL_areNear 150 = .ok (.iconst 4, 1) := by decide +kernel
theorem dL_areNear_151 : decode cL_areNear 151 = .ok (.invokevirtual 9, 3) := by decide +kernel
theorem dL_areNear_154 : decode cL_areNear 154 = .ok (.ifCond .eq 36, 3) := by decide +kernel
theorem dL_areNear_157 : decode cL_areNear 157 = .ok (.aload_n 0, 1) := by decide +kernel
theorem dL_areNear_158 : decode cL_areNear 158 = .ok (.iload 6, 2) := by decide +kernel
theorem dL_areNear_160 : decode cL_areNear 160 = .ok (.iload 9, 2) := by decide +kernel
theorem dL_areNear_162 : decode cL_areNear 162 = .ok (.invokestatic 39, 3) := by decide +kernel
theorem dL_areNear_165 : decode cL_areNear 165 = .ok (.iload 8, 2) := by decide +kernel
theorem dL_areNear_167 : decode cL_areNear 167 = .ok (.if_icmp .gt 23, 3) := by decide +kernel
theorem dL_areNear_170 : decode cL_areNear 170 = .ok (.aload_n 0, 1) := by decide +kernel
theorem dL_areNear_171 : decode cL_areNear 171 = .ok (.iload 6, 2) := by decide +kernel
theorem dL_areNear_173 : decode cL_areNear 173 = .ok (.iload 9, 2) := by decide +kernel
theorem dL_areNear_175 : decode cL_areNear 175 = .ok (.invokestatic 39, 3) := by decide +kernel
theorem dL_areNear_178 : decode cL_areNear 178 = .ok (.iload 8, 2) := by decide +kernel
theorem dL_areNear_180 : decode cL_areNear 180 = .ok (.if_icmp .ne 14, 3) := by decide +kernel
theorem dL_areNear_183 : decode cL_areNear 183 = .ok (.iload 9, 2) := by decide +kernel
theorem dL_areNear_185 : decode cL_areNear 185 = .ok (.iload 7, 2) := by decide +kernel
theorem dL_areNear_187 : decode cL_areNear 187 = .ok (.if_icmp .lt 7, 3) := by decide +kernel
theorem dL_areNear_190 : decode cL_areNear 190 = .ok (.iconst 1, 1) := by decide +kernel
theorem dL_areNear_191 : decode cL_areNear 191 = .ok (.goto 4, 3) := by decide +kernel
theorem dL_areNear_194 : decode cL_areNear 194 = .ok (.iconst 0, 1) := by decide +kernel
theorem dL_areNear_195 : decode cL_areNear 195 = .ok (.istore 5, 2) := by decide +kernel
theorem dL_areNear_197 : decode cL_areNear 197 = .ok (.iinc 9 1, 3) := by decide +kernel
theorem dL_areNear_200 : decode cL_areNear 200 = .ok (.goto (-65), 3) := by decide +kernel
theorem dL_areNear_203 : decode cL_areNear 203 = .ok (.aload_n 0, 1) := by decide +kernel
theorem dL_areNear_204 : decode cL_areNear 204 = .ok (.iload 6, 2) := by decide +kernel
theorem dL_areNear_206 : decode cL_areNear 206 = .ok (.invokevirtual 30, 3) := by decide +kernel
theorem dL_areNear_209 : decode cL_areNear 209 = .ok (.istore 9, 2) := by decide +kernel
theorem dL_areNear_211 : decode cL_areNear 211 = .ok (.iload_n 1, 1) := by decide +kernel
theorem dL_areNear_212 : decode cL_areNear 212 = .ok (.iload 9, 2) := by decide +kernel
theorem dL_areNear_214 : decode cL_areNear 214 = .ok (.ifCond .lt 17, 3) := by decide +kernel
theorem dL_areNear_217 : decode cL_areNear 217 = .ok (.iload 9, 2) := by decide +kernel
theorem dL_areNear_219 : decode cL_areNear 219 = .ok (.bipush 6, 2) := by decide +kernel
theorem dL_areNear_221 : decode cL_areNear 221 = .ok (.if_icmp .ge 10, 3) := by decide +kernel
theorem dL_areNear_224 : decode cL_areNear 224 = .ok (.iconst 1, 1) := by decide +kernel
theorem dL_areNear_225 : decode cL_areNear 225 = .ok (.iload 9, 2) := by decide +kernel
theorem dL_areNear_227 : decode cL_areNear 227 = .ok (.ishl, 1) := by decide +kernel
theorem dL_areNear_228 : decode cL_areNear 228 = .ok (.goto 4, 3) := by decide +kernel
theorem dL_areNear_231 : decode cL_areNear 231 = .ok (.iconst 0, 1) := by decide +kernel
theorem dL_areNear_232 : decode cL_areNear 232 = .ok (.ior, 1) := by decide +kernel
theorem dL_areNear_233 : decode cL_areNear 233 = .ok (.istore_n 1, 1) := by decide +kernel
theorem dL_areNear_234 : decode cL_areNear 234 = .ok (.iload_n 2, 1) := by decide +kernel
theorem dL_areNear_235 : decode cL_areNear 235 = .ok (.iload 6, 2) := by decide +kernel
theorem dL_areNear_237 : decode cL_areNear 237 = .ok (.ifCond .le 26, 3) := by decide +kernel
theorem dL_areNear_240 : decode cL_areNear 240 = .ok (.aload_n 0, 1) := by decide +kernel
theorem dL_areNear_241 : decode cL_areNear 241 = .ok (.iload 6, 2) := by decide +kernel
theorem dL_areNear_243 : decode cL_areNear 243 = .ok (.iconst 0, 1) := by decide +kernel
theorem dL_areNear_244 : decode cL_areNear 244 = .ok (.invokevirtual 36, 3) := by decide +kernel
theorem dL_areNear_247 : decode cL_areNear 247 = .ok (.aload_n 0, 1) := by decide +kernel
theorem dL_areNear_248 : decode cL_areNear 248 = .ok (.iload 6, 2) := by decide +kernel
theorem dL_areNear_250 : decode cL_areNear 250 = .ok (.iconst 1, 1) := by decide +kernel
theorem dL_areNear_251 : decode cL_areNear 251 = .ok (.isub, 1) := by decide +kernel
theorem dL_areNear_252 : decode cL_areNear 252 = .ok (.iconst 0, 1) := by decide +kernel
theorem dL_areNear_253 : decode cL_areNear 253 = .ok (.invokevirtual 36, 3) := by decide +kernel
theorem dL_areNear_256 : decode cL_areNear 256 = .ok (.if_icmp .eq 7, 3) := by decide +kernel
theorem dL_areNear_259 : decode cL_areNear 259 = .ok (.iconst 1, 1) := by decide +kernel
theorem dL_areNear_260 : decode cL_areNear 260 = .ok (.goto 4, 3) := by decide +kernel
theorem dL_areNear_263 : decode cL_areNear 263 = .ok (.iconst 0, 1) := by decide +kernel
theorem dL_areNear_264 : decode cL_areNear 264 = .ok (.iadd, 1) := by decide +kernel
theorem dL_areNear_265 : decode cL_areNear 265 = .ok (.istore_n 2, 1) := by decide +kernel
theorem dL_areNear_266 : decode cL_areNear 266 = .ok (.iload_n 3, 1) := by decide +kernel
theorem dL_areNear_267 : decode cL_areNear 267 = .ok (.iload 6, 2) := by decide +kernel
theorem dL_areNear_269 : decode cL_areNear 269 = .ok (.ifCond .le 30, 3) := by decide +kernel
theorem dL_areNear_272 : decode cL_areNear 272 = .ok (.aload_n 0, 1) := by decide +kernel
theorem dL_areNear_273 : decode cL_areNear 273 = .ok (.iload 9, 2) := by decide +kernel
theorem dL_areNear_275 : decode cL_areNear 275 = .ok (.iconst 0, 1) := by decide +kernel
theorem dL_areNear_276 : decode cL_areNear 276 = .ok (.invokevirtual 36, 3) := by decide +kernel
theorem dL_areNear_279 : decode cL_areNear 279 = .ok (.aload_n 0, 1) := by decide +kernel
theorem dL_areNear_280 : decode cL_areNear 280 = .ok (.aload_n 0, 1) := by decide +kernel
theorem dL_areNear_281 : decode cL_areNear 281 = .ok (.iload 6, 2) := by decide +kernel
theorem dL_areNear_283 : decode cL_areNear 283 = .ok (.iconst 1, 1) := by decide +kernel
theorem dL_areNear_284 : decode cL_areNear 284 = .ok (.isub, 1) := by decide +kernel
theorem dL_areNear_285 : decode cL_areNear 285 = .ok (.invokevirtual 30, 3) := by decide +kernel
theorem dL_areNear_288 : decode cL_areNear 288 = .ok (.iconst 0, 1) := by decide +kernel
theorem dL_areNear_289 : decode cL_areNear 289 = .ok (.invokevirtual 36, 3) := by decide +kernel
theorem dL_areNear_292 : decode cL_areNear 292 = .ok (.if_icmp .eq 7, 3) := by decide +kernel
theorem dL_areNear_295 : decode cL_areNear 295 = .ok (.iconst 1, 1) := by decide +kernel
theorem dL_areNear_296 : decode cL_areNear 296 = .ok (.goto 4, 3) := by decide +kernel
theorem dL_areNear_299 : decode cL_areNear 299 = .ok (.iconst 0, 1) := by decide +kernel
theorem dL_areNear_300 : decode cL_areNear 300 = .ok (.iadd, 1) := by decide +kernel
theorem dL_areNear_301 : decode cL_areNear 301 = .ok (.istore_n 3, 1) := by decide +kernel
theorem dL_areNear_302 : decode cL_areNear 302 = .ok (.iinc 6 1, 3) := by decide +kernel
theorem dL_areNear_305 : decode cL_areNear 305 = .ok (.goto (-238), 3) := by decide +kernel
theorem dL_areNear_308 : decode cL_areNear 308 = .ok (.iconst 0, 1) := by decide +kernel
theorem dL_areNear_309 : decode cL_areNear 309 = .ok (.istore 6, 2) := by decide +kernel
theorem dL_areNear_311 : decode cL_areNear 311 = .ok (.iload 6, 2) := by decide +kernel
theorem dL_areNear_313 : decode cL_areNear 313 = .ok (.bipush 6, 2) := by decide +kernel
theorem dL_areNear_315 : decode cL_areNear 315 = .ok (.if_icmp .ge 47, 3) := by decide +kernel
theorem dL_areNear_318 : decode cL_areNear 318 = .ok (.iload 5, 2) := by decide +kernel
theorem dL_areNear_320 : decode cL_areNear 320 = .ok (.ifCond .eq 42, 3) := by decide +kernel
theorem dL_areNear_323 : decode cL_areNear 323 = .ok (.iload 4, 2) := by decide +kernel
theorem dL_areNear_325 : decode cL_areNear 325 = .ok (.ifCond .eq 37, 3) := by decide +kernel
theorem dL_areNear_328 : decode cL_areNear 328 = .ok (.aload_n 0, 1) := by decide +kernel
theorem dL_areNear_329 : decode cL_areNear 329 = .ok (.iload 6, 2) := by decide +kernel
theorem dL_areNear_331 : decode cL_areNear 331 = .ok (.invokevirtual 33, 3) := by decide +kernel
theorem dL_areNear_334 : decode cL_areNear 334 = .ok (.iload_n 3, 1) := by decide +kernel
theorem dL_areNear_335 : decode cL_areNear 335 = .ok (.if_icmp .lt 18, 3) := by decide +kernel
theorem dL_areNear_338 : decode cL_areNear 338 = .ok (.aload_n 0, 1) := by decide +kernel
theorem dL_areNear_339 : decode cL_areNear 339 = .ok (.iload 6, 2) := by decide +kernel
theorem dL_areNear_341 : decode cL_areNear 341 = .ok (.invokevirtual 33, 3) := by decide +kernel
theorem dL_areNear_344 : decode cL_areNear 344 = .ok (.bipush 6, 2) := by decide +kernel
theorem dL_areNear_346 : decode cL_areNear 346 = .ok (.if_icmp .ge 7, 3) := by decide +kernel
theorem dL_areNear_349 : decode cL_areNear 349 = .ok (.iconst 1, 1) := by decide +kernel
theorem dL_areNear_350 : decode cL_areNear 350 = .ok (.goto 4, 3) := by decide +kernel
theorem dL_areNear_353 : decode cL_areNear 353 = .ok (.iconst 0, 1) := by decide +kernel
theorem dL_areNear_354 : decode cL_areNear 354 = .ok (.istore 5, 2) := by decide +kernel
theorem dL_areNear_356 : decode cL_areNear 356 = .ok (.iinc 6 1, 3) := by decide +kernel
theorem dL_areNear_359 : decode cL_areNear 359 = .ok (.goto (-48), 3) := by decide +kernel
theorem dL_areNear_362 : decode cL_areNear 362 = .ok (.iload 5, 2) := by decide +kernel
theorem dL_areNear_364 : decode cL_areNear 364 = .ok (.ifCond .eq 35, 3) := by decide +kernel
theorem dL_areNear_367 : decode cL_areNear 367 = .ok (.iload 4, 2) := by decide +kernel
theorem dL_areNear_369 : decode cL_areNear 369 = .ok (.ifCond .eq 26, 3) := by decide +kernel
theorem dL_areNear_372 : decode cL_areNear 372 = .ok (.iload_n 1, 1) := by decide +kernel
theorem dL_areNear_373 : decode cL_areNear 373 = .ok (.bipush 63, 2) := by decide +kernel
theorem dL_areNear_375 : decode cL_areNear 375 = .ok (.if_icmp .ne 24, 3) := by decide +kernel
theorem dL_areNear_378 : decode cL_areNear 378 = .ok (.aload_n 0, 1) := by decide +kernel
theorem dL_areNear_379 : decode cL_areNear 379 = .ok (.iconst 0, 1) := by decide +kernel
theorem dL_areNear_380 : decode cL_areNear 380 = .ok (.invokevirtual 33, 3) := by decide +kernel
theorem dL_areNear_383 : decode cL_areNear 383 = .ok (.iload_n 2, 1) := by decide +kernel
theorem dL_areNear_384 : decode cL_areNear 384 = .ok (.if_icmp .ne 15, 3) := by decide +kernel
theorem dL_areNear_387 : decode cL_areNear 387 = .ok (.aload_n 0, 1) := by decide +kernel
theorem dL_areNear_388 : decode cL_areNear 388 = .ok (.iconst 0, 1) := by decide +kernel
theorem dL_areNear_389 : decode cL_areNear 389 = .ok (.invokevirtual 30, 3) := by decide +kernel
theorem dL_areNear_392 : decode cL_areNear 392 = .ok (.ifCond .ne 7, 3) := by decide +kernel
theorem dL_areNear_395 : decode cL_areNear 395 = .ok (.iconst 1, 1) := by decide +kernel
theorem dL_areNear_396 : decode cL_areNear 396 = .ok (.goto 4, 3) := by decide +kernel
theorem dL_areNear_399 : decode cL_areNear 399 = .ok (.iconst 0, 1) := by decide +kernel
theorem dL_areNear_400 : decode cL_areNear 400 = .ok (.ireturn, 1) := by decide +kernel
set_option maxRecDepth 20000 in
theorem ggL_acts_X4_pot : GoodIn wsL_acts wsX4_pot := goodIn_r _ [5, 6, 7, 8, 4, 9, 10, 11, 12, 13, 14, 15, 16, 17, 18, 19, 20, 21, 22, 23, 24, 25, 26, 27, 28, 29, 30, 31, 32, 33, 34, 35, 36, 37, 38, 39, 40, 41, 42, 242, 243, 244, 245, 246, 247, 248, 249, 250, 251, 252, 253, 254, 255, 256, 257, 258, 259, 260] (by decide +kernel) (by decide +kernel)
set_option maxRecDepth 20000 in
theorem gL_acts_X4_pot : GoodIn wsL_acts (wsV RL 9 RX4 yX4_pot wsX4_pot) := goodIn_app (goodIn_of _ (by decide +kernel)) ggL_acts_X4_pot
set_option maxRecDepth 20000 in
theorem ggL_acts_X4_brush : GoodIn wsL_acts wsX4_brush := goodIn_r _ [46, 6, 18, 19, 20, 13, 21, 22, 4, 23, 24, 25, 26, 27, 28, 16, 17, 29, 30, 31, 32, 33, 34, 35, 36, 37, 38, 39, 40, 41, 42, 242, 243, 244, 245, 246, 247, 248, 249, 250, 251, 252, 253, 254, 255, 256, 257, 258, 259, 260] (by decide +kernel) (by decide +kernel)
set_option maxRecDepth 20000 in
theorem gL_acts_X4_brush : GoodIn wsL_acts (wsV RL 27 RX4 yX4_brush wsX4_brush) := goodIn_app (goodIn_of _ (by decide +kernel)) ggL_acts_X4_brush
set_option maxRecDepth 20000 in
theorem ggL_acts_X4_fill : GoodIn wsL_acts wsX4_fill := goodIn_r _ [50, 6, 51, 52, 53, 4, 54, 55, 56, 57, 58, 59, 60, 61, 62, 13, 63, 64, 28, 15, 65, 66, 67, 68, 69, 70, 71, 72, 73, 74, 75, 76, 77, 78, 79, 80, 81, 82, 83, 84, 85, 8, 9, 22, 23, 29, 30, 31, 32, 86, 87, 88, 16, 17, 89, 90, 91, 92, 93, 94, 95, 96, 242, 243, 244, 245, 246, 247, 248, 249, 250, 251, 252, 253, 254, 255, 256, 257, 258, 259, 260] (by decide +kernel) (by decide +kernel)
set_option maxRecDepth 20000 in
theorem gL_acts_X4_fill : GoodIn wsL_acts (wsV RL 43 RX4 yX4_fill wsX4_fill) := goodIn_app (goodIn_of _ (by decide +kernel)) ggL_acts_X4_fill
set_option maxRecDepth 20000 in
theorem ggL_acts_X4_thin : GoodIn wsL_acts wsX4_thin := goodIn_r _ [100, 6, 51, 52, 53, 4, 54, 55, 56, 57, 58, 59, 60, 61, 62, 13, 63, 64, 28, 15, 65, 66, 67, 68, 69, 70, 71, 72, 73, 74, 75, 76, 77, 78, 79, 80, 81, 101, 102, 103, 104, 8, 9, 29, 30, 31, 32, 86, 87, 88, 16, 17, 89, 90, 91, 92, 93, 94, 95, 96, 242, 243, 244, 245, 246, 247, 248, 249, 250, 251, 252, 253, 254, 255, 256, 257, 258, 259, 260] (by decide +kernel) (by decide +kernel)
set_option maxRecDepth 20000 in
theorem gL_acts_X4_thin : GoodIn wsL_acts (wsV RL 47 RX4 yX4_thin wsX4_thin) := goodIn_app (goodIn_of _ (by decide +kernel)) ggL_acts_X4_thin
set_option maxRecDepth 20000 in
theorem ggL_acts_X4_pour : GoodIn wsL_acts wsX4_pour := goodIn_r _ [108, 6, 51, 52, 53, 4, 54, 55, 56, 57, 58, 59, 60, 61, 62, 13, 63, 64, 28, 15, 65, 66, 67, 68, 69, 70, 71, 72, 73, 74, 75, 76, 77, 78, 79, 80, 81, 109, 110, 111, 112, 8, 9, 22, 23, 113, 114, 115, 116, 117, 29, 30, 31, 32, 118, 119, 120, 121, 122, 16, 17, 41, 42, 90, 91, 123, 124, 125, 126, 127, 128, 86, 87, 88, 89, 92, 93, 94, 95, 96, 242, 243, 244, 245, 246, 247, 248, 249, 250, 251, 252, 253, 254, 255, 256, 257, 258, 259, 260] (by decide +kernel) (by decide +kernel)
set_option maxRecDepth 20000 in
theorem gL_acts_X4_pour : GoodIn wsL_acts (wsV RL 50 RX4 yX4_pour wsX4_pour) := goodIn_app (goodIn_of _ (by decide +kernel)) ggL_acts_X4_pour
set_option maxRecDepth 20000 in
theorem ggL_acts_X4_dip : GoodIn wsL_acts wsX4_dip := goodIn_r _ [132, 6, 51, 52, 53, 4, 54, 55, 56, 57, 58, 59, 60, 61, 62, 13, 63, 64, 28, 15, 65, 66, 67, 68, 69, 70, 71, 72, 73, 74, 75, 76, 77, 78, 79, 80, 81, 133, 134, 135, 136, 8, 9, 22, 23, 113, 114, 115, 116, 117, 29, 30, 31, 32, 118, 119, 120, 121, 122, 16, 17, 41, 42, 90, 91, 123, 124, 125, 126, 127, 128, 86, 87, 88, 89, 92, 93, 94, 95, 96, 242, 243, 244, 245, 246, 247, 248, 249, 250, 251, 252, 253, 254, 255, 256, 257, 258, 259, 260] (by decide +kernel) (by decide +kernel)
set_option maxRecDepth 20000 in
theorem gL_acts_X4_dip : GoodIn wsL_acts (wsV RL 53 RX4 yX4_dip wsX4_dip) := goodIn_app (goodIn_of _ (by decide +kernel)) ggL_acts_X4_dip
set_option maxRecDepth 20000 in
theorem ggL_acts_X4_panel : GoodIn wsL_acts wsX4_panel := goodIn_r _ [140, 6, 7, 8, 4, 9, 141, 142, 143, 13, 144, 65, 67, 66, 22, 23, 16, 17, 145, 146, 147, 148, 64, 149, 150, 151, 152, 153, 154, 155, 156, 157, 158, 159, 160, 161, 162, 76, 163, 242, 243, 244, 245, 246, 247, 248, 249, 250, 251, 252, 253, 254, 255, 256, 257, 258, 259, 260] (by decide +kernel) (by decide +kernel)
set_option maxRecDepth 20000 in
theorem gL_acts_X4_panel : GoodIn wsL_acts (wsV RL 15 RX4 yX4_panel wsX4_panel) := goodIn_app (goodIn_of _ (by decide +kernel)) ggL_acts_X4_panel
set_option maxRecDepth 20000 in
theorem ggL_acts_X4_paint : GoodIn wsL_acts wsX4_paint := goodIn_r _ [167, 6, 51, 52, 53, 4, 54, 55, 56, 57, 58, 59, 60, 61, 62, 13, 63, 64, 28, 15, 65, 66, 67, 68, 69, 70, 71, 72, 73, 74, 75, 76, 77, 78, 79, 80, 81, 168, 169, 170, 171, 8, 9, 16, 17, 29, 30, 31, 32, 37, 38, 39, 40, 41, 42, 90, 91, 118, 119, 120, 121, 117, 122, 123, 124, 125, 126, 127, 128, 86, 87, 88, 89, 153, 154, 155, 156, 157, 158, 159, 160, 161, 162, 163, 92, 93, 94, 95, 96, 242, 243, 244, 245, 246, 247, 248, 249, 250, 251, 252, 253, 254, 255, 256, 257, 258, 259, 260] (by decide +kernel) (by decide +kernel)
set_option maxRecDepth 20000 in
theorem gL_acts_X4_paint : GoodIn wsL_acts (wsV RL 56 RX4 yX4_paint wsX4_paint) := goodIn_app (goodIn_of _ (by decide +kernel)) ggL_acts_X4_paint
set_option maxRecDepth 20000 in
theorem ggL_acts_X4_count : GoodIn wsL_acts wsX4_count := goodIn_r _ [175, 176, 96, 6, 177, 178, 179, 180, 181, 182, 183, 184, 185, 13, 186, 64, 68, 69, 70, 71, 16, 4, 17, 187, 188, 189, 190, 29, 30, 31, 32, 28, 191, 192, 193, 194, 149, 150, 151, 152, 67, 195, 196, 197, 198, 145, 146, 147, 148, 153, 154, 155, 156, 66, 157, 158, 159, 160, 65, 161, 162, 76, 163, 199, 200, 201, 202, 242, 243, 244, 245, 246, 247, 248, 261, 262, 263, 264, 249, 250, 251, 252, 253, 254, 255, 256, 257, 258, 259, 260] (by decide +kernel) (by decide +kernel)
set_option maxRecDepth 20000 in
theorem gL_acts_X4_count : GoodIn wsL_acts (wsV RL 23 RX4 yX4_count wsX4_count) := goodIn_app (goodIn_of _ (by decide +kernel)) ggL_acts_X4_count
set_option maxRecDepth 20000 in
theorem ggL_acts_X4_empty : GoodIn wsL_acts wsX4_empty := goodIn_r _ [206, 6, 51, 52, 53, 4, 54, 55, 56, 57, 58, 59, 60, 61, 62, 13, 63, 64, 28, 15, 65, 66, 67, 68, 69, 70, 71, 72, 73, 74, 75, 76, 77, 78, 79, 80, 81, 207, 208, 209, 210, 8, 9, 211, 212, 213, 214, 29, 30, 31, 32, 90, 91, 92, 93, 94, 95, 96, 242, 243, 244, 245, 246, 247, 248, 249, 250, 251, 252, 253, 254, 255, 256, 257, 258, 259, 260] (by decide +kernel) (by decide +kernel)
set_option maxRecDepth 20000 in
theorem gL_acts_X4_empty : GoodIn wsL_acts (wsV RL 59 RX4 yX4_empty wsX4_empty) := goodIn_app (goodIn_of _ (by decide +kernel)) ggL_acts_X4_empty
set_option maxRecDepth 20000 in
theorem ggL_acts_X4_rinse : GoodIn wsL_acts wsX4_rinse := goodIn_r _ [218, 6, 51, 52, 53, 4, 54, 55, 56, 57, 58, 59, 60, 61, 62, 13, 63, 64, 28, 15, 65, 66, 67, 68, 69, 70, 71, 72, 73, 74, 75, 76, 77, 78, 79, 80, 81, 219, 220, 221, 222, 211, 212, 213, 214, 29, 30, 31, 32, 90, 91, 92, 93, 94, 95, 96, 242, 243, 244, 245, 246, 247, 248, 249, 250, 251, 252, 253, 254, 255, 256, 257, 258, 259, 260] (by decide +kernel) (by decide +kernel)
set_option maxRecDepth 20000 in
theorem gL_acts_X4_rinse : GoodIn wsL_acts (wsV RL 62 RX4 yX4_rinse wsX4_rinse) := goodIn_app (goodIn_of _ (by decide +kernel)) ggL_acts_X4_rinse
set_option maxRecDepth 20000 in
theorem ggL_acts_X4_set : GoodIn wsL_acts wsX4_set := goodIn_r _ [226, 6, 51, 52, 53, 4, 54, 55, 56, 57, 58, 59, 60, 61, 62, 13, 63, 64, 28, 15, 65, 66, 67, 68, 69, 70, 71, 72, 73, 74, 75, 76, 77, 78, 79, 80, 81, 227, 228, 229, 230, 22, 23, 16, 17, 90, 91, 92, 93, 94, 95, 96, 242, 243, 244, 245, 246, 247, 248, 249, 250, 251, 252, 253, 254, 255, 256, 257, 258, 259, 260] (by decide +kernel) (by decide +kernel)
set_option maxRecDepth 20000 in
theorem gL_acts_X4_set : GoodIn wsL_acts (wsV RL 66 RX4 yX4_set wsX4_set) := goodIn_app (goodIn_of _ (by decide +kernel)) ggL_acts_X4_set
set_option maxRecDepth 20000 in
theorem ggL_acts_X4_want : GoodIn wsL_acts wsX4_want := goodIn_r _ [234, 6, 51, 52, 53, 4, 54, 55, 56, 57, 58, 59, 60, 61, 62, 13, 63, 64, 28, 15, 65, 66, 67, 68, 69, 70, 71, 72, 73, 74, 75, 76, 77, 78, 79, 80, 81, 235, 236, 237, 238, 8, 9, 239, 240, 241, 22, 23, 90, 91, 195, 196, 197, 198, 145, 146, 147, 148, 149, 150, 151, 152, 16, 17, 153, 154, 155, 156, 157, 158, 159, 160, 161, 162, 163, 92, 93, 94, 95, 96, 242, 243, 244, 245, 246, 247, 248, 249, 250, 251, 252, 253, 254, 255, 256, 257, 258, 259, 260] (by decide +kernel) (by decide +kernel)
set_option maxRecDepth 20000 in
theorem gL_acts_X4_want : GoodIn wsL_acts (wsV RL 69 RX4 yX4_want wsX4_want) := goodIn_app (goodIn_of _ (by decide +kernel)) ggL_acts_X4_want
theorem dL_acts_0 : decode cL_acts 0 = .ok (.iload_n 1, 1) := by decide +kernel
theorem dL_acts_1 : decode cL_acts 1 = .ok (.iconst 4, 1) := by decide +kernel
theorem dL_acts_2 : decode cL_acts 2 = .ok (.ishr, 1) := by decide +kernel
theorem dL_acts_3 : decode cL_acts 3 = .ok (.bipush 8, 2) := by decide +kernel
theorem dL_acts_5 : decode cL_acts 5 = .ok (.irem, 1) := by decide +kernel
theorem dL_acts_6 : decode cL_acts 6 = .ok (.istore_n 2, 1) := by decide +kernel
theorem dL_acts_7 : decode cL_acts 7 = .ok (.iload_n 1, 1) := by decide +kernel
theorem dL_acts_8 : decode cL_acts 8 = .ok (.bipush 7, 2) := by decide +kernel
theorem dL_acts_10 : decode cL_acts 10 = .ok (.ishr, 1) := by decide +kernel
theorem dL_acts_11 : decode cL_acts 11 = .ok (.bipush 8, 2) := by decide +kernel
theorem dL_acts_13 : decode cL_acts 13 = .ok (.irem, 1) := by decide +kernel
theorem dL_acts_14 : decode cL_acts 14 = .ok (.istore_n 3, 1) := by decide +kernel
theorem dL_acts_15 : decode cL_acts 15 = .ok (.iconst 1, 1) := by decide +kernel
theorem dL_acts_16 : decode cL_acts 16 = .ok (.iload_n 1, 1) := by decide +kernel
theorem dL_acts_17 : decode cL_acts 17 = .ok (.bipush 10, 2) := by decide +kernel
theorem dL_acts_19 : decode cL_acts 19 = .ok (.ishr, 1) := by decide +kernel
theorem dL_acts_20 : decode cL_acts 20 = .ok (.bipush 30, 2) := by decide +kernel
theorem dL_acts_22 : decode cL_acts 22 = .ok (.irem, 1) := by decide +kernel
theorem dL_acts_23 : decode cL_acts 23 = .ok (.iadd, 1) := by decide +kernel
theorem dL_acts_24 : decode cL_acts 24 = .ok (.istore 4, 2) := by decide +kernel
theorem dL_acts_26 : decode cL_acts 26 = .ok (.aload_n 0, 1) := by decide +kernel
theorem dL_acts_27 : decode cL_acts 27 = .ok (.iload_n 2, 1) := by decide +kernel
theorem dL_acts_28 : decode cL_acts 28 = .ok (.iconst 4, 1) := by decide +kernel
theorem dL_acts_29 : decode cL_acts 29 = .ok (.invokevirtual 9, 3) := by decide +kernel
theorem dL_acts_32 : decode cL_acts 32 = .ok (.istore 5, 2) := by decide +kernel
theorem dL_acts_34 : decode cL_acts 34 = .ok (.aload_n 0, 1) := by decide +kernel
theorem dL_acts_35 : decode cL_acts 35 = .ok (.iconst 4, 1) := by decide +kernel
theorem dL_acts_36 : decode cL_acts 36 = .ok (.invokevirtual 27, 3) := by decide +kernel
theorem dL_acts_39 : decode cL_acts 39 = .ok (.istore 6, 2) := by decide +kernel
theorem dL_acts_41 : decode cL_acts 41 = .ok (.iload_n 1, 1) := by decide +kernel
theorem dL_acts_42 : decode cL_acts 42 = .ok (.bipush 11, 2) := by decide +kernel
theorem dL_acts_44 : decode cL_acts 44 = .ok (.irem, 1) := by decide +kernel
theorem dL_acts_45 : decode cL_acts 45 = .ok (.tableswitch 765 0 9 #[55, 55, 55, 139, 252, 252, 447, 447, 544, 664], 55) := by decide +kernel
theorem dL_acts_100 : decode cL_acts 100 = .ok (.iload_n 1, 1) := by decide +kernel
theorem dL_acts_101 : decode cL_acts 101 = .ok (.bipush 15, 2) := by decide +kernel
theorem dL_acts_103 : decode cL_acts 103 = .ok (.ishr, 1) := by decide +kernel
theorem dL_acts_104 : decode cL_acts 104 = .ok (.iconst 4, 1) := by decide +kernel
theorem dL_acts_105 : decode cL_acts 105 = .ok (.irem, 1) := by decide +kernel
theorem dL_acts_106 : decode cL_acts 106 = .ok (.istore 7, 2) := by decide +kernel
theorem dL_acts_108 : decode cL_acts 108 = .ok (.aload_n 0, 1) := by decide +kernel
theorem dL_acts_109 : decode cL_acts 109 = .ok (.iload_n 2, 1) := by decide +kernel
theorem dL_acts_110 : decode cL_acts 110 = .ok (.iload 7, 2) := by decide +kernel
theorem dL_acts_112 : decode cL_acts 112 = .ok (.invokevirtual 9, 3) := by decide +kernel
theorem dL_acts_115 : decode cL_acts 115 = .ok (.istore 8, 2) := by decide +kernel
theorem dL_acts_117 : decode cL_acts 117 = .ok (.aload_n 0, 1) := by decide +kernel
theorem dL_acts_118 : decode cL_acts 118 = .ok (.iload_n 2, 1) := by decide +kernel
theorem dL_acts_119 : decode cL_acts 119 = .ok (.iload 7, 2) := by decide +kernel
theorem dL_acts_121 : decode cL_acts 121 = .ok (.iload 4, 2) := by decide +kernel
theorem dL_acts_123 : decode cL_acts 123 = .ok (.invokevirtual 43, 3) := by decide +kernel
theorem dL_acts_126 : decode cL_acts 126 = .ok (.istore 9, 2) := by decide +kernel
theorem dL_acts_128 : decode cL_acts 128 = .ok (.iload 5, 2) := by decide +kernel
theorem dL_acts_130 : decode cL_acts 130 = .ok (.iload 4, 2) := by decide +kernel
theorem dL_acts_132 : decode cL_acts 132 = .ok (.iadd, 1) := by decide +kernel
theorem dL_acts_133 : decode cL_acts 133 = .ok (.bipush 81, 2) := by decide +kernel
theorem dL_acts_135 : decode cL_acts 135 = .ok (.if_icmp .le 18, 3) := by decide +kernel
theorem dL_acts_138 : decode cL_acts 138 = .ok (.iload 9, 2) := by decide +kernel
theorem dL_acts_140 : decode cL_acts 140 = .ok (.bipush (-4), 2) := by decide +kernel
theorem dL_acts_142 : decode cL_acts 142 = .ok (.if_icmp .ne 7, 3) := by decide +kernel
theorem dL_acts_145 : decode cL_acts 145 = .ok (.iconst 1, 1) := by decide +kernel
theorem dL_acts_146 : decode cL_acts 146 = .ok (.goto 37, 3) := by decide +kernel
theorem dL_acts_149 : decode cL_acts 149 = .ok (.iconst 0, 1) := by decide +kernel
theorem dL_acts_150 : decode cL_acts 150 = .ok (.goto 33, 3) := by decide +kernel
theorem dL_acts_153 : decode cL_acts 153 = .ok (.iload 9, 2) := by decide +kernel
theorem dL_acts_155 : decode cL_acts 155 = .ok (.iload 5, 2) := by decide +kernel
theorem dL_acts_157 : decode cL_acts 157 = .ok (.iload 4, 2) := by decide +kernel
theorem dL_acts_159 : decode cL_acts 159 = .ok (.iadd, 1) := by decide +kernel
theorem dL_acts_160 : decode cL_acts 160 = .ok (.if_icmp .ne 22, 3) := by decide +kernel
theorem dL_acts_163 : decode cL_acts 163 = .ok (.aload_n 0, 1) := by decide +kernel
theorem dL_acts_164 : decode cL_acts 164 = .ok (.iload_n 2, 1) := by decide +kernel
theorem dL_acts_165 : decode cL_acts 165 = .ok (.iload 7, 2) := by decide +kernel
theorem dL_acts_167 : decode cL_acts 167 = .ok (.invokevirtual 9, 3) := by decide +kernel
theorem dL_acts_170 : decode cL_acts 170 = .ok (.iload 8, 2) := by decide +kernel
theorem dL_acts_172 : decode cL_acts 172 = .ok (.iload 4, 2) := by decide +kernel
theorem dL_acts_174 : decode cL_acts 174 = .ok (.iadd, 1) := by decide +kernel
theorem dL_acts_175 : decode cL_acts 175 = .ok (.if_icmp .ne 7, 3) := by decide +kernel
theorem dL_acts_178 : decode cL_acts 178 = .ok (.iconst 1, 1) := by decide +kernel
theorem dL_acts_179 : decode cL_acts 179 = .ok (.goto 4, 3) := by decide +kernel
theorem dL_acts_182 : decode cL_acts 182 = .ok (.iconst 0, 1) := by decide +kernel
theorem dL_acts_183 : decode cL_acts 183 = .ok (.ireturn, 1) := by decide +kernel
theorem dL_acts_184 : decode cL_acts 184 = .ok (.aload_n 0, 1) := by decide +kernel
theorem dL_acts_185 : decode cL_acts 185 = .ok (.iload_n 2, 1) := by decide +kernel
theorem dL_acts_186 : decode cL_acts 186 = .ok (.iconst 3, 1) := by decide +kernel
theorem dL_acts_187 : decode cL_acts 187 = .ok (.invokevirtual 9, 3) := by decide +kernel
theorem dL_acts_190 : decode cL_acts 190 = .ok (.istore 10, 2) := by decide +kernel
theorem dL_acts_192 : decode cL_acts 192 = .ok (.aload_n 0, 1) := by decide +kernel
theorem dL_acts_193 : decode cL_acts 193 = .ok (.iload_n 2, 1) := by decide +kernel
theorem dL_acts_194 : decode cL_acts 194 = .ok (.bipush 8, 2) := by decide +kernel
theorem dL_acts_196 : decode cL_acts 196 = .ok (.invokevirtual 9, 3) := by decide +kernel
theorem dL_acts_199 : decode cL_acts 199 = .ok (.istore 11, 2) := by decide +kernel
theorem dL_acts_201 : decode cL_acts 201 = .ok (.aload_n 0, 1) := by decide +kernel
theorem dL_acts_202 : decode cL_acts 202 = .ok (.iload_n 2, 1) := by decide +kernel
theorem dL_acts_203 : decode cL_acts 203 = .ok (.invokevirtual 47, 3) := by decide +kernel
theorem dL_acts_206 : decode cL_acts 206 = .ok (.istore 12, 2) := by decide +kernel
theorem dL_acts_208 : decode cL_acts 208 = .ok (.iload 5, 2) := by decide +kernel
theorem dL_acts_210 : decode cL_acts 210 = .ok (.ifCond .ne 18, 3) := by decide +kernel
theorem dL_acts_213 : decode cL_acts 213 = .ok (.iload 12, 2) := by decide +kernel
theorem dL_acts_215 : decode cL_acts 215 = .ok (.bipush (-5), 2) := by decide +kernel
theorem dL_acts_217 : decode cL_acts 217 = .ok (.if_icmp .ne 7, 3) := by decide +kernel
theorem dL_acts_220 : decode cL_acts 220 = .ok (.iconst 1, 1) := by decide +kernel
theorem dL_acts_221 : decode cL_acts 221 = .ok (.goto 75, 3) := by decide +kernel
theorem dL_acts_224 : decode cL_acts 224 = .ok (.iconst 0, 1) := by decide +kernel
theorem dL_acts_225 : decode cL_acts 225 = .ok (.goto 71, 3) := by decide +kernel
theorem dL_acts_228 : decode cL_acts 228 = .ok (.iconst 3, 1) := by decide +kernel
theorem dL_acts_229 : decode cL_acts 229 = .ok (.iload 5, 2) := by decide +kernel
theorem dL_acts_231 : decode cL_acts 231 = .ok (.imul, 1) := by decide +kernel
theorem dL_acts_232 : decode cL_acts 232 = .ok (.bipush 81, 2) := by decide +kernel
theorem dL_acts_234 : decode cL_acts 234 = .ok (.if_icmp .le 18, 3) := by decide +kernel
theorem dL_acts_237 : decode cL_acts 237 = .ok (.iload 12, 2) := by decide +kernel
theorem dL_acts_239 : decode cL_acts 239 = .ok (.bipush (-4), 2) := by decide +kernel
theorem dL_acts_241 : decode cL_acts 241 = .ok (.if_icmp .ne 7, 3) := by decide +kernel
theorem dL_acts_244 : decode cL_acts 244 = .ok (.iconst 1, 1) := by decide +kernel
theorem dL_acts_245 : decode cL_acts 245 = .ok (.goto 51, 3) := by decide +kernel
theorem dL_acts_248 : decode cL_acts 248 = .ok (.iconst 0, 1) := by decide +kernel
theorem dL_acts_249 : decode cL_acts 249 = .ok (.goto 47, 3) := by decide +kernel
theorem dL_acts_252 : decode cL_acts 252 = .ok (.iload 12, 2) := by decide +kernel
theorem dL_acts_254 : decode cL_acts 254 = .ok (.iconst 3, 1) := by decide +kernel
theorem dL_acts_255 : decode cL_acts 255 = .ok (.iload 5, 2) := by decide +kernel
theorem dL_acts_257 : decode cL_acts 257 = .ok (.imul, 1) := by decide +kernel
theorem dL_acts_258 : decode cL_acts 258 = .ok (.if_icmp .ne 37, 3) := by decide +kernel
theorem dL_acts_261 : decode cL_acts 261 = .ok (.aload_n 0, 1) := by decide +kernel
theorem dL_acts_262 : decode cL_acts 262 = .ok (.iload_n 2, 1) := by decide +kernel
theorem dL_acts_263 : decode cL_acts 263 = .ok (.iconst 3, 1) := by decide +kernel
theorem dL_acts_264 : decode cL_acts 264 = .ok (.invokevirtual 9, 3) := by decide +kernel
theorem dL_acts_267 : decode cL_acts 267 = .ok (.iload 10, 2) := by decide +kernel
theorem dL_acts_269 : decode cL_acts 269 = .ok (.iconst 2, 1) := by decide +kernel
theorem dL_acts_270 : decode cL_acts 270 = .ok (.iload 5, 2) := by decide +kernel
theorem dL_acts_272 : decode cL_acts 272 = .ok (.imul, 1) := by decide +kernel
theorem dL_acts_273 : decode cL_acts 273 = .ok (.iadd, 1) := by decide +kernel
theorem dL_acts_274 : decode cL_acts 274 = .ok (.if_icmp .ne 21, 3) := by decide +kernel
theorem dL_acts_277 : decode cL_acts 277 = .ok (.aload_n 0, 1) := by decide +kernel
theorem dL_acts_278 : decode cL_acts 278 = .ok (.iload_n 2, 1) := by decide +kernel
theorem dL_acts_279 : decode cL_acts 279 = .ok (.bipush 8, 2) := by decide +kernel
theorem dL_acts_281 : decode cL_acts 281 = .ok (.invokevirtual 9, 3) := by decide +kernel
theorem dL_acts_284 : decode cL_acts 284 = .ok (.iload 11, 2) := by decide +kernel
theorem dL_acts_286 : decode cL_acts 286 = .ok (.iconst 1, 1) := by decide +kernel
theorem dL_acts_287 : decode cL_acts 287 = .ok (.iadd, 1) := by decide +kernel
theorem dL_acts_288 : decode cL_acts 288 = .ok (.if_icmp .ne 7, 3) := by decide +kernel
theorem dL_acts_291 : decode cL_acts 291 = .ok (.iconst 1, 1) := by decide +kernel
theorem dL_acts_292 : decode cL_acts 292 = .ok (.goto 4, 3) := by decide +kernel
theorem dL_acts_295 : decode cL_acts 295 = .ok (.iconst 0, 1) := by decide +kernel
theorem dL_acts_296 : decode cL_acts 296 = .ok (.ireturn, 1) := by decide +kernel
theorem dL_acts_297 : decode cL_acts 297 = .ok (.aload_n 0, 1) := by decide +kernel
theorem dL_acts_298 : decode cL_acts 298 = .ok (.iload_n 3, 1) := by decide +kernel
theorem dL_acts_299 : decode cL_acts 299 = .ok (.iconst 4, 1) := by decide +kernel
theorem dL_acts_300 : decode cL_acts 300 = .ok (.invokevirtual 9, 3) := by decide +kernel
theorem dL_acts_303 : decode cL_acts 303 = .ok (.istore 13, 2) := by decide +kernel
theorem dL_acts_305 : decode cL_acts 305 = .ok (.aload_n 0, 1) := by decide +kernel
theorem dL_acts_306 : decode cL_acts 306 = .ok (.iload_n 2, 1) := by decide +kernel
theorem dL_acts_307 : decode cL_acts 307 = .ok (.iconst 0, 1) := by decide +kernel
theorem dL_acts_308 : decode cL_acts 308 = .ok (.invokevirtual 9, 3) := by decide +kernel
theorem dL_acts_311 : decode cL_acts 311 = .ok (.istore 14, 2) := by decide +kernel
theorem dL_acts_313 : decode cL_acts 313 = .ok (.aload_n 0, 1) := by decide +kernel
theorem dL_acts_314 : decode cL_acts 314 = .ok (.iload_n 3, 1) := by decide +kernel
theorem dL_acts_315 : decode cL_acts 315 = .ok (.iconst 0, 1) := by decide +kernel
theorem dL_acts_316 : decode cL_acts 316 = .ok (.invokevirtual 9, 3) := by decide +kernel
theorem dL_acts_319 : decode cL_acts 319 = .ok (.istore 15, 2) := by decide +kernel
theorem dL_acts_321 : decode cL_acts 321 = .ok (.aload_n 0, 1) := by decide +kernel
theorem dL_acts_322 : decode cL_acts 322 = .ok (.iload_n 2, 1) := by decide +kernel
theorem dL_acts_323 : decode cL_acts 323 = .ok (.iload_n 3, 1) := by decide +kernel
theorem dL_acts_324 : decode cL_acts 324 = .ok (.iload 4, 2) := by decide +kernel
theorem dL_acts_326 : decode cL_acts 326 = .ok (.invokevirtual 50, 3) := by decide +kernel
theorem dL_acts_329 : decode cL_acts 329 = .ok (.istore 16, 2) := by decide +kernel
theorem dL_acts_331 : decode cL_acts 331 = .ok (.iload_n 2, 1) := by decide +kernel
theorem dL_acts_332 : decode cL_acts 332 = .ok (.iload_n 3, 1) := by decide +kernel
theorem dL_acts_333 : decode cL_acts 333 = .ok (.if_icmp .ne 18, 3) := by decide +kernel
theorem dL_acts_336 : decode cL_acts 336 = .ok (.iload 16, 2) := by decide +kernel
theorem dL_acts_338 : decode cL_acts 338 = .ok (.bipush (-2), 2) := by decide +kernel
theorem dL_acts_340 : decode cL_acts 340 = .ok (.if_icmp .ne 7, 3) := by decide +kernel
theorem dL_acts_343 : decode cL_acts 343 = .ok (.iconst 1, 1) := by decide +kernel
theorem dL_acts_344 : decode cL_acts 344 = .ok (.goto 147, 3) := by decide +kernel
theorem dL_acts_347 : decode cL_acts 347 = .ok (.iconst 0, 1) := by decide +kernel
theorem dL_acts_348 : decode cL_acts 348 = .ok (.goto 143, 3) := by decide +kernel
theorem dL_acts_351 : decode cL_acts 351 = .ok (.iload 5, 2) := by decide +kernel
theorem dL_acts_353 : decode cL_acts 353 = .ok (.iload 4, 2) := by decide +kernel
theorem dL_acts_355 : decode cL_acts 355 = .ok (.if_icmp .ge 18, 3) := by decide +kernel
theorem dL_acts_358 : decode cL_acts 358 = .ok (.iload 16, 2) := by decide +kernel
theorem dL_acts_360 : decode cL_acts 360 = .ok (.bipush (-5), 2) := by decide +kernel
theorem dL_acts_362 : decode cL_acts 362 = .ok (.if_icmp .ne 7, 3) := by decide +kernel
theorem dL_acts_365 : decode cL_acts 365 = .ok (.iconst 1, 1) := by decide +kernel
theorem dL_acts_366 : decode cL_acts 366 = .ok (.goto 125, 3) := by decide +kernel
theorem dL_acts_369 : decode cL_acts 369 = .ok (.iconst 0, 1) := by decide +kernel
theorem dL_acts_370 : decode cL_acts 370 = .ok (.goto 121, 3) := by decide +kernel
theorem dL_acts_373 : decode cL_acts 373 = .ok (.iload 13, 2) := by decide +kernel
theorem dL_acts_375 : decode cL_acts 375 = .ok (.iload 4, 2) := by decide +kernel
theorem dL_acts_377 : decode cL_acts 377 = .ok (.iadd, 1) := by decide +kernel
theorem dL_acts_378 : decode cL_acts 378 = .ok (.bipush 81, 2) := by decide +kernel
theorem dL_acts_380 : decode cL_acts 380 = .ok (.if_icmp .le 18, 3) := by decide +kernel
theorem dL_acts_383 : decode cL_acts 383 = .ok (.iload 16, 2) := by decide +kernel
theorem dL_acts_385 : decode cL_acts 385 = .ok (.bipush (-4), 2) := by decide +kernel
theorem dL_acts_387 : decode cL_acts 387 = .ok (.if_icmp .ne 7, 3) := by decide +kernel
theorem dL_acts_390 : decode cL_acts 390 = .ok (.iconst 1, 1) := by decide +kernel
theorem dL_acts_391 : decode cL_acts 391 = .ok (.goto 100, 3) := by decide +kernel
theorem dL_acts_394 : decode cL_acts 394 = .ok (.iconst 0, 1) := by decide +kernel
theorem dL_acts_395 : decode cL_acts 395 = .ok (.goto 96, 3) := by decide +kernel
theorem dL_acts_398 : decode cL_acts 398 = .ok (.iload 16, 2) := by decide +kernel
theorem dL_acts_400 : decode cL_acts 400 = .ok (.iload 13, 2) := by decide +kernel
theorem dL_acts_402 : decode cL_acts 402 = .ok (.iload 4, 2) := by decide +kernel
theorem dL_acts_404 : decode cL_acts 404 = .ok (.iadd, 1) := by decide +kernel
theorem dL_acts_405 : decode cL_acts 405 = .ok (.if_icmp .ne 85, 3) := by decide +kernel
theorem dL_acts_408 : decode cL_acts 408 = .ok (.aload_n 0, 1) := by decide +kernel
theorem dL_acts_409 : decode cL_acts 409 = .ok (.iload_n 2, 1) := by decide +kernel
theorem dL_acts_410 : decode cL_acts 410 = .ok (.iconst 4, 1) := by decide +kernel
theorem dL_acts_411 : decode cL_acts 411 = .ok (.invokevirtual 9, 3) := by decide +kernel
theorem dL_acts_414 : decode cL_acts 414 = .ok (.iload 5, 2) := by decide +kernel
theorem dL_acts_416 : decode cL_acts 416 = .ok (.iload 4, 2) := by decide +kernel
theorem dL_acts_418 : decode cL_acts 418 = .ok (.isub, 1) := by decide +kernel
theorem dL_acts_419 : decode cL_acts 419 = .ok (.if_icmp .ne 71, 3) := by decide +kernel
theorem dL_acts_422 : decode cL_acts 422 = .ok (.aload_n 0, 1) := by decide +kernel
theorem dL_acts_423 : decode cL_acts 423 = .ok (.iload_n 2, 1) := by decide +kernel
theorem dL_acts_424 : decode cL_acts 424 = .ok (.iconst 0, 1) := by decide +kernel
theorem dL_acts_425 : decode cL_acts 425 = .ok (.invokevirtual 9, 3) := by decide +kernel
theorem dL_acts_428 : decode cL_acts 428 = .ok (.aload_n 0, 1) := by decide +kernel
theorem dL_acts_429 : decode cL_acts 429 = .ok (.iload_n 3, 1) := by decide +kernel
theorem dL_acts_430 : decode cL_acts 430 = .ok (.iconst 0, 1) := by decide +kernel
theorem dL_acts_431 : decode cL_acts 431 = .ok (.invokevirtual 9, 3) := by decide +kernel
theorem dL_acts_434 : decode cL_acts 434 = .ok (.iadd, 1) := by decide +kernel
theorem dL_acts_435 : decode cL_acts 435 = .ok (.iload 14, 2) := by decide +kernel
theorem dL_acts_437 : decode cL_acts 437 = .ok (.iload 15, 2) := by decide +kernel
theorem dL_acts_439 : decode cL_acts 439 = .ok (.iadd, 1) := by decide +kernel
theorem dL_acts_440 : decode cL_acts 440 = .ok (.if_icmp .ne 50, 3) := by decide +kernel
theorem dL_acts_443 : decode cL_acts 443 = .ok (.aload_n 0, 1) := by decide +kernel
theorem dL_acts_444 : decode cL_acts 444 = .ok (.iload_n 3, 1) := by decide +kernel
theorem dL_acts_445 : decode cL_acts 445 = .ok (.iconst 0, 1) := by decide +kernel
theorem dL_acts_446 : decode cL_acts 446 = .ok (.invokevirtual 9, 3) := by decide +kernel
theorem dL_acts_449 : decode cL_acts 449 = .ok (.iload 15, 2) := by decide +kernel
theorem dL_acts_451 : decode cL_acts 451 = .ok (.isub, 1) := by decide +kernel
theorem dL_acts_452 : decode cL_acts 452 = .ok (.iload 14, 2) := by decide +kernel
theorem dL_acts_454 : decode cL_acts 454 = .ok (.iload 4, 2) := by decide +kernel
theorem dL_acts_456 : decode cL_acts 456 = .ok (.imul, 1) := by decide +kernel
theorem dL_acts_457 : decode cL_acts 457 = .ok (.iload 5, 2) := by decide +kernel
theorem dL_acts_459 : decode cL_acts 459 = .ok (.idiv, 1) := by decide +kernel
theorem dL_acts_460 : decode cL_acts 460 = .ok (.isub, 1) := by decide +kernel
theorem dL_acts_461 : decode cL_acts 461 = .ok (.ifCond .lt 29, 3) := by decide +kernel
theorem dL_acts_464 : decode cL_acts 464 = .ok (.aload_n 0, 1) := by decide +kernel
theorem dL_acts_465 : decode cL_acts 465 = .ok (.iload_n 3, 1) := by decide +kernel
theorem dL_acts_466 : decode cL_acts 466 = .ok (.iconst 0, 1) := by decide +kernel
theorem dL_acts_467 : decode cL_acts 467 = .ok (.invokevirtual 9, 3) := by decide +kernel
theorem dL_acts_470 : decode cL_acts 470 = .ok (.iload 15, 2) := by decide +kernel
theorem dL_acts_472 : decode cL_acts 472 = .ok (.isub, 1) := by decide +kernel
theorem dL_acts_473 : decode cL_acts 473 = .ok (.iload 14, 2) := by decide +kernel
theorem dL_acts_475 : decode cL_acts 475 = .ok (.iload 4, 2) := by decide +kernel
theorem dL_acts_477 : decode cL_acts 477 = .ok (.imul, 1) := by decide +kernel
theorem dL_acts_478 : decode cL_acts 478 = .ok (.iload 5, 2) := by decide +kernel
theorem dL_acts_480 : decode cL_acts 480 = .ok (.idiv, 1) := by decide +kernel
theorem dL_acts_481 : decode cL_acts 481 = .ok (.isub, 1) := by decide +kernel
theorem dL_acts_482 : decode cL_acts 482 = .ok (.iconst 1, 1) := by decide +kernel
theorem dL_acts_483 : decode cL_acts 483 = .ok (.if_icmp .gt 7, 3) := by decide +kernel
theorem dL_acts_486 : decode cL_acts 486 = .ok (.iconst 1, 1) := by decide +kernel
theorem dL_acts_487 : decode cL_acts 487 = .ok (.goto 4, 3) := by decide +kernel
theorem dL_acts_490 : decode cL_acts 490 = .ok (.iconst 0, 1) := by decide +kernel
theorem dL_acts_491 : decode cL_acts 491 = .ok (.ireturn, 1) := by decide +kernel
theorem dL_acts_492 : decode cL_acts 492 = .ok (.iconst 1, 1) := by decide +kernel
theorem dL_acts_493 : decode cL_acts 493 = .ok (.iload_n 1, 1) := by decide +kernel
theorem dL_acts_494 : decode cL_acts 494 = .ok (.bipush 10, 2) := by decide +kernel
theorem dL_acts_496 : decode cL_acts 496 = .ok (.ishr, 1) := by decide +kernel
theorem dL_acts_497 : decode cL_acts 497 = .ok (.bipush 9, 2) := by decide +kernel
theorem dL_acts_499 : decode cL_acts 499 = .ok (.irem, 1) := by decide +kernel
theorem dL_acts_500 : decode cL_acts 500 = .ok (.iadd, 1) := by decide +kernel
theorem dL_acts_501 : decode cL_acts 501 = .ok (.istore 17, 2) := by decide +kernel
theorem dL_acts_503 : decode cL_acts 503 = .ok (.aload_n 0, 1) := by decide +kernel
theorem dL_acts_504 : decode cL_acts 504 = .ok (.iload_n 2, 1) := by decide +kernel
theorem dL_acts_505 : decode cL_acts 505 = .ok (.iload 17, 2) := by decide +kernel
theorem dL_acts_507 : decode cL_acts 507 = .ok (.invokevirtual 53, 3) := by decide +kernel
theorem dL_acts_510 : decode cL_acts 510 = .ok (.istore 18, 2) := by decide +kernel
theorem dL_acts_512 : decode cL_acts 512 = .ok (.iload 5, 2) := by decide +kernel
theorem dL_acts_514 : decode cL_acts 514 = .ok (.iload 17, 2) := by decide +kernel
theorem dL_acts_516 : decode cL_acts 516 = .ok (.if_icmp .ge 18, 3) := by decide +kernel
theorem dL_acts_519 : decode cL_acts 519 = .ok (.iload 18, 2) := by decide +kernel
theorem dL_acts_521 : decode cL_acts 521 = .ok (.bipush (-5), 2) := by decide +kernel
theorem dL_acts_523 : decode cL_acts 523 = .ok (.if_icmp .ne 7, 3) := by decide +kernel
theorem dL_acts_526 : decode cL_acts 526 = .ok (.iconst 1, 1) := by decide +kernel
theorem dL_acts_527 : decode cL_acts 527 = .ok (.goto 61, 3) := by decide +kernel
theorem dL_acts_530 : decode cL_acts 530 = .ok (.iconst 0, 1) := by decide +kernel
theorem dL_acts_531 : decode cL_acts 531 = .ok (.goto 57, 3) := by decide +kernel
theorem dL_acts_534 : decode cL_acts 534 = .ok (.iload 6, 2) := by decide +kernel
theorem dL_acts_536 : decode cL_acts 536 = .ok (.iload 17, 2) := by decide +kernel
theorem dL_acts_538 : decode cL_acts 538 = .ok (.iadd, 1) := by decide +kernel
theorem dL_acts_539 : decode cL_acts 539 = .ok (.bipush 9, 2) := by decide +kernel
theorem dL_acts_541 : decode cL_acts 541 = .ok (.if_icmp .le 18, 3) := by decide +kernel
theorem dL_acts_544 : decode cL_acts 544 = .ok (.iload 18, 2) := by decide +kernel
theorem dL_acts_546 : decode cL_acts 546 = .ok (.bipush (-4), 2) := by decide +kernel
theorem dL_acts_548 : decode cL_acts 548 = .ok (.if_icmp .ne 7, 3) := by decide +kernel
theorem dL_acts_551 : decode cL_acts 551 = .ok (.iconst 1, 1) := by decide +kernel
theorem dL_acts_552 : decode cL_acts 552 = .ok (.goto 36, 3) := by decide +kernel
theorem dL_acts_555 : decode cL_acts 555 = .ok (.iconst 0, 1) := by decide +kernel
theorem dL_acts_556 : decode cL_acts 556 = .ok (.goto 32, 3) := by decide +kernel
theorem dL_acts_559 : decode cL_acts 559 = .ok (.iload 18, 2) := by decide +kernel
theorem dL_acts_561 : decode cL_acts 561 = .ok (.iload 6, 2) := by decide +kernel
theorem dL_acts_563 : decode cL_acts 563 = .ok (.iload 17, 2) := by decide +kernel
theorem dL_acts_565 : decode cL_acts 565 = .ok (.iadd, 1) := by decide +kernel
theorem dL_acts_566 : decode cL_acts 566 = .ok (.if_icmp .ne 21, 3) := by decide +kernel
theorem dL_acts_569 : decode cL_acts 569 = .ok (.aload_n 0, 1) := by decide +kernel
theorem dL_acts_570 : decode cL_acts 570 = .ok (.iload_n 2, 1) := by decide +kernel
theorem dL_acts_571 : decode cL_acts 571 = .ok (.iconst 4, 1) := by decide +kernel
theorem dL_acts_572 : decode cL_acts 572 = .ok (.invokevirtual 9, 3) := by decide +kernel
theorem dL_acts_575 : decode cL_acts 575 = .ok (.iload 5, 2) := by decide +kernel
theorem dL_acts_577 : decode cL_acts 577 = .ok (.iload 17, 2) := by decide +kernel
theorem dL_acts_579 : decode cL_acts 579 = .ok (.isub, 1) := by decide +kernel
theorem dL_acts_580 : decode cL_acts 580 = .ok (.if_icmp .ne 7, 3) := by decide +kernel
theorem dL_acts_583 : decode cL_acts 583 = .ok (.iconst 1, 1) := by decide +kernel
theorem dL_acts_584 : decode cL_acts 584 = .ok (.goto 4, 3) := by decide +kernel
theorem dL_acts_587 : decode cL_acts 587 = .ok (.iconst 0, 1) := by decide +kernel
theorem dL_acts_588 : decode cL_acts 588 = .ok (.ireturn, 1) := by decide +kernel
theorem dL_acts_589 : decode cL_acts 589 = .ok (.iload_n 1, 1) := by decide +kernel
theorem dL_acts_590 : decode cL_acts 590 = .ok (.iconst 4, 1) := by decide +kernel
theorem dL_acts_591 : decode cL_acts 591 = .ok (.ishr, 1) := by decide +kernel
theorem dL_acts_592 : decode cL_acts 592 = .ok (.bipush 6, 2) := by decide +kernel
theorem dL_acts_594 : decode cL_acts 594 = .ok (.irem, 1) := by decide +kernel
theorem dL_acts_595 : decode cL_acts 595 = .ok (.istore 19, 2) := by decide +kernel
theorem dL_acts_597 : decode cL_acts 597 = .ok (.aload_n 0, 1) := by decide +kernel
theorem dL_acts_598 : decode cL_acts 598 = .ok (.iconst 5, 1) := by decide +kernel
theorem dL_acts_599 : decode cL_acts 599 = .ok (.invokevirtual 27, 3) := by decide +kernel
theorem dL_acts_602 : decode cL_acts 602 = .ok (.istore 20, 2) := by decide +kernel
theorem dL_acts_604 : decode cL_acts 604 = .ok (.aload_n 0, 1) := by decide +kernel
theorem dL_acts_605 : decode cL_acts 605 = .ok (.iload 19, 2) := by decide +kernel
theorem dL_acts_607 : decode cL_acts 607 = .ok (.bipush 8, 2) := by decide +kernel
theorem dL_acts_609 : decode cL_acts 609 = .ok (.invokevirtual 15, 3) := by decide +kernel
theorem dL_acts_612 : decode cL_acts 612 = .ok (.istore 21, 2) := by decide +kernel
theorem dL_acts_614 : decode cL_acts 614 = .ok (.aload_n 0, 1) := by decide +kernel
theorem dL_acts_615 : decode cL_acts 615 = .ok (.iload 19, 2) := by decide +kernel
theorem dL_acts_617 : decode cL_acts 617 = .ok (.invokevirtual 56, 3) := by decide +kernel
theorem dL_acts_620 : decode cL_acts 620 = .ok (.istore 22, 2) := by decide +kernel
theorem dL_acts_622 : decode cL_acts 622 = .ok (.iload 6, 2) := by decide +kernel
theorem dL_acts_624 : decode cL_acts 624 = .ok (.aload_n 0, 1) := by decide +kernel
theorem dL_acts_625 : decode cL_acts 625 = .ok (.iconst 0, 1) := by decide +kernel
theorem dL_acts_626 : decode cL_acts 626 = .ok (.invokevirtual 23, 3) := by decide +kernel
theorem dL_acts_629 : decode cL_acts 629 = .ok (.if_icmp .ge 18, 3) := by decide +kernel
theorem dL_acts_632 : decode cL_acts 632 = .ok (.iload 22, 2) := by decide +kernel
theorem dL_acts_634 : decode cL_acts 634 = .ok (.bipush (-5), 2) := by decide +kernel
theorem dL_acts_636 : decode cL_acts 636 = .ok (.if_icmp .ne 7, 3) := by decide +kernel
theorem dL_acts_639 : decode cL_acts 639 = .ok (.iconst 1, 1) := by decide +kernel
theorem dL_acts_640 : decode cL_acts 640 = .ok (.goto 68, 3) := by decide +kernel
theorem dL_acts_643 : decode cL_acts 643 = .ok (.iconst 0, 1) := by decide +kernel
theorem dL_acts_644 : decode cL_acts 644 = .ok (.goto 64, 3) := by decide +kernel
theorem dL_acts_647 : decode cL_acts 647 = .ok (.iload 22, 2) := by decide +kernel
theorem dL_acts_649 : decode cL_acts 649 = .ok (.aload_n 0, 1) := by decide +kernel
theorem dL_acts_650 : decode cL_acts 650 = .ok (.iload 19, 2) := by decide +kernel
theorem dL_acts_652 : decode cL_acts 652 = .ok (.bipush 6, 2) := by decide +kernel
theorem dL_acts_654 : decode cL_acts 654 = .ok (.invokevirtual 15, 3) := by decide +kernel
theorem dL_acts_657 : decode cL_acts 657 = .ok (.if_icmp .ne 50, 3) := by decide +kernel
theorem dL_acts_660 : decode cL_acts 660 = .ok (.aload_n 0, 1) := by decide +kernel
theorem dL_acts_661 : decode cL_acts 661 = .ok (.iload 19, 2) := by decide +kernel
theorem dL_acts_663 : decode cL_acts 663 = .ok (.iconst 3, 1) := by decide +kernel
theorem dL_acts_664 : decode cL_acts 664 = .ok (.invokevirtual 15, 3) := by decide +kernel
theorem dL_acts_667 : decode cL_acts 667 = .ok (.iload 20, 2) := by decide +kernel
theorem dL_acts_669 : decode cL_acts 669 = .ok (.if_icmp .ne 38, 3) := by decide +kernel
theorem dL_acts_672 : decode cL_acts 672 = .ok (.aload_n 0, 1) := by decide +kernel
theorem dL_acts_673 : decode cL_acts 673 = .ok (.iconst 4, 1) := by decide +kernel
theorem dL_acts_674 : decode cL_acts 674 = .ok (.invokevirtual 27, 3) := by decide +kernel
theorem dL_acts_677 : decode cL_acts 677 = .ok (.iload 6, 2) := by decide +kernel
theorem dL_acts_679 : decode cL_acts 679 = .ok (.aload_n 0, 1) := by decide +kernel
theorem dL_acts_680 : decode cL_acts 680 = .ok (.iconst 0, 1) := by decide +kernel
theorem dL_acts_681 : decode cL_acts 681 = .ok (.invokevirtual 23, 3) := by decide +kernel
theorem dL_acts_684 : decode cL_acts 684 = .ok (.isub, 1) := by decide +kernel
theorem dL_acts_685 : decode cL_acts 685 = .ok (.if_icmp .ne 22, 3) := by decide +kernel
theorem dL_acts_688 : decode cL_acts 688 = .ok (.aload_n 0, 1) := by decide +kernel
theorem dL_acts_689 : decode cL_acts 689 = .ok (.iload 19, 2) := by decide +kernel
theorem dL_acts_691 : decode cL_acts 691 = .ok (.bipush 8, 2) := by decide +kernel
theorem dL_acts_693 : decode cL_acts 693 = .ok (.invokevirtual 15, 3) := by decide +kernel
theorem dL_acts_696 : decode cL_acts 696 = .ok (.iload 21, 2) := by decide +kernel
theorem dL_acts_698 : decode cL_acts 698 = .ok (.iconst 1, 1) := by decide +kernel
theorem dL_acts_699 : decode cL_acts 699 = .ok (.iadd, 1) := by decide +kernel
theorem dL_acts_700 : decode cL_acts 700 = .ok (.if_icmp .ne 7, 3) := by decide +kernel
theorem dL_acts_703 : decode cL_acts 703 = .ok (.iconst 1, 1) := by decide +kernel
theorem dL_acts_704 : decode cL_acts 704 = .ok (.goto 4, 3) := by decide +kernel
theorem dL_acts_707 : decode cL_acts 707 = .ok (.iconst 0, 1) := by decide +kernel
theorem dL_acts_708 : decode cL_acts 708 = .ok (.ireturn, 1) := by decide +kernel
theorem dL_acts_709 : decode cL_acts 709 = .ok (.aload_n 0, 1) := by decide +kernel
theorem dL_acts_710 : decode cL_acts 710 = .ok (.iconst 5, 1) := by decide +kernel
theorem dL_acts_711 : decode cL_acts 711 = .ok (.invokevirtual 23, 3) := by decide +kernel
theorem dL_acts_714 : decode cL_acts 714 = .ok (.istore 23, 2) := by decide +kernel
theorem dL_acts_716 : decode cL_acts 716 = .ok (.iload_n 1, 1) := by decide +kernel
theorem dL_acts_717 : decode cL_acts 717 = .ok (.iconst 4, 1) := by decide +kernel
theorem dL_acts_718 : decode cL_acts 718 = .ok (.ishr, 1) := by decide +kernel
theorem dL_acts_719 : decode cL_acts 719 = .ok (.iconst 3, 1) := by decide +kernel
theorem dL_acts_720 : decode cL_acts 720 = .ok (.irem, 1) := by decide +kernel
theorem dL_acts_721 : decode cL_acts 721 = .ok (.ifCond .ne 43, 3) := by decide +kernel
theorem dL_acts_724 : decode cL_acts 724 = .ok (.aload_n 0, 1) := by decide +kernel
theorem dL_acts_725 : decode cL_acts 725 = .ok (.iload_n 2, 1) := by decide +kernel
theorem dL_acts_726 : decode cL_acts 726 = .ok (.invokevirtual 59, 3) := by decide +kernel
theorem dL_acts_729 : decode cL_acts 729 = .ok (.iload 5, 2) := by decide +kernel
theorem dL_acts_731 : decode cL_acts 731 = .ok (.if_icmp .ne 29, 3) := by decide +kernel
theorem dL_acts_734 : decode cL_acts 734 = .ok (.aload_n 0, 1) := by decide +kernel
theorem dL_acts_735 : decode cL_acts 735 = .ok (.iconst 5, 1) := by decide +kernel
theorem dL_acts_736 : decode cL_acts 736 = .ok (.invokevirtual 23, 3) := by decide +kernel
theorem dL_acts_739 : decode cL_acts 739 = .ok (.iload 23, 2) := by decide +kernel
theorem dL_acts_741 : decode cL_acts 741 = .ok (.iload 5, 2) := by decide +kernel
theorem dL_acts_743 : decode cL_acts 743 = .ok (.iadd, 1) := by decide +kernel
theorem dL_acts_744 : decode cL_acts 744 = .ok (.if_icmp .ne 16, 3) := by decide +kernel
theorem dL_acts_747 : decode cL_acts 747 = .ok (.aload_n 0, 1) := by decide +kernel
theorem dL_acts_748 : decode cL_acts 748 = .ok (.iload_n 2, 1) := by decide +kernel
theorem dL_acts_749 : decode cL_acts 749 = .ok (.iconst 4, 1) := by decide +kernel
theorem dL_acts_750 : decode cL_acts 750 = .ok (.invokevirtual 9, 3) := by decide +kernel
theorem dL_acts_753 : decode cL_acts 753 = .ok (.ifCond .ne 7, 3) := by decide +kernel
theorem dL_acts_756 : decode cL_acts 756 = .ok (.iconst 1, 1) := by decide +kernel
theorem dL_acts_757 : decode cL_acts 757 = .ok (.goto 52, 3) := by decide +kernel
theorem dL_acts_760 : decode cL_acts 760 = .ok (.iconst 0, 1) := by decide +kernel
theorem dL_acts_761 : decode cL_acts 761 = .ok (.goto 48, 3) := by decide +kernel
theorem dL_acts_764 : decode cL_acts 764 = .ok (.aload_n 0, 1) := by decide +kernel
theorem dL_acts_765 : decode cL_acts 765 = .ok (.invokevirtual 62, 3) := by decide +kernel
theorem dL_acts_768 : decode cL_acts 768 = .ok (.iload 6, 2) := by decide +kernel
theorem dL_acts_770 : decode cL_acts 770 = .ok (.if_icmp .ne 38, 3) := by decide +kernel
theorem dL_acts_773 : decode cL_acts 773 = .ok (.aload_n 0, 1) := by decide +kernel
theorem dL_acts_774 : decode cL_acts 774 = .ok (.iconst 4, 1) := by decide +kernel
theorem dL_acts_775 : decode cL_acts 775 = .ok (.invokevirtual 27, 3) := by decide +kernel
theorem dL_acts_778 : decode cL_acts 778 = .ok (.ifCond .ne 30, 3) := by decide +kernel
theorem dL_acts_781 : decode cL_acts 781 = .ok (.aload_n 0, 1) := by decide +kernel
theorem dL_acts_782 : decode cL_acts 782 = .ok (.iconst 5, 1) := by decide +kernel
theorem dL_acts_783 : decode cL_acts 783 = .ok (.invokevirtual 23, 3) := by decide +kernel
theorem dL_acts_786 : decode cL_acts 786 = .ok (.iload 23, 2) := by decide +kernel
theorem dL_acts_788 : decode cL_acts 788 = .ok (.iload 6, 2) := by decide +kernel
theorem dL_acts_790 : decode cL_acts 790 = .ok (.iadd, 1) := by decide +kernel
theorem dL_acts_791 : decode cL_acts 791 = .ok (.if_icmp .ne 17, 3) := by decide +kernel
theorem dL_acts_794 : decode cL_acts 794 = .ok (.aload_n 0, 1) := by decide +kernel
theorem dL_acts_795 : decode cL_acts 795 = .ok (.iconst 5, 1) := by decide +kernel
theorem dL_acts_796 : decode cL_acts 796 = .ok (.invokevirtual 27, 3) := by decide +kernel
theorem dL_acts_799 : decode cL_acts 799 = .ok (.bipush (-6), 2) := by decide +kernel
theorem dL_acts_801 : decode cL_acts 801 = .ok (.if_icmp .ne 7, 3) := by decide +kernel
theorem dL_acts_804 : decode cL_acts 804 = .ok (.iconst 1, 1) := by decide +kernel
theorem dL_acts_805 : decode cL_acts 805 = .ok (.goto 4, 3) := by decide +kernel
theorem dL_acts_808 : decode cL_acts 808 = .ok (.iconst 0, 1) := by decide +kernel
theorem dL_acts_809 : decode cL_acts 809 = .ok (.ireturn, 1) := by decide +kernel
theorem dL_acts_810 : decode cL_acts 810 = .ok (.iload_n 1, 1) := by decide +kernel
theorem dL_acts_811 : decode cL_acts 811 = .ok (.iconst 4, 1) := by decide +kernel
theorem dL_acts_812 : decode cL_acts 812 = .ok (.ishr, 1) := by decide +kernel
theorem dL_acts_813 : decode cL_acts 813 = .ok (.bipush 6, 2) := by decide +kernel
theorem dL_acts_815 : decode cL_acts 815 = .ok (.irem, 1) := by decide +kernel
theorem dL_acts_816 : decode cL_acts 816 = .ok (.istore 24, 2) := by decide +kernel
theorem dL_acts_818 : decode cL_acts 818 = .ok (.iload_n 1, 1) := by decide +kernel
theorem dL_acts_819 : decode cL_acts 819 = .ok (.bipush 7, 2) := by decide +kernel
theorem dL_acts_821 : decode cL_acts 821 = .ok (.ishr, 1) := by decide +kernel
theorem dL_acts_822 : decode cL_acts 822 = .ok (.bipush 101, 2) := by decide +kernel
theorem dL_acts_824 : decode cL_acts 824 = .ok (.irem, 1) := by decide +kernel
theorem dL_acts_825 : decode cL_acts 825 = .ok (.istore 25, 2) := by decide +kernel
theorem dL_acts_827 : decode cL_acts 827 = .ok (.iload_n 1, 1) := by decide +kernel
theorem dL_acts_828 : decode cL_acts 828 = .ok (.bipush 14, 2) := by decide +kernel
theorem dL_acts_830 : decode cL_acts 830 = .ok (.ishr, 1) := by decide +kernel
theorem dL_acts_831 : decode cL_acts 831 = .ok (.bipush 101, 2) := by decide +kernel
theorem dL_acts_833 : decode cL_acts 833 = .ok (.irem, 1) := by decide +kernel
theorem dL_acts_834 : decode cL_acts 834 = .ok (.istore 26, 2) := by decide +kernel
theorem dL_acts_836 : decode cL_acts 836 = .ok (.iload_n 1, 1) := by decide +kernel
theorem dL_acts_837 : decode cL_acts 837 = .ok (.bipush 21, 2) := by decide +kernel
theorem dL_acts_839 : decode cL_acts 839 = .ok (.ishr, 1) := by decide +kernel
theorem dL_acts_840 : decode cL_acts 840 = .ok (.bipush 101, 2) := by decide +kernel
theorem dL_acts_842 : decode cL_acts 842 = .ok (.irem, 1) := by decide +kernel
theorem dL_acts_843 : decode cL_acts 843 = .ok (.istore 27, 2) := by decide +kernel
theorem dL_acts_845 : decode cL_acts 845 = .ok (.iload_n 1, 1) := by decide +kernel
theorem dL_acts_846 : decode cL_acts 846 = .ok (.iconst 3, 1) := by decide +kernel
theorem dL_acts_847 : decode cL_acts 847 = .ok (.ishr, 1) := by decide +kernel
theorem dL_acts_848 : decode cL_acts 848 = .ok (.iconst 4, 1) := by decide +kernel
theorem dL_acts_849 : decode cL_acts 849 = .ok (.irem, 1) := by decide +kernel
theorem dL_acts_850 : decode cL_acts 850 = .ok (.ifCond .ne 67, 3) := by decide +kernel
theorem dL_acts_853 : decode cL_acts 853 = .ok (.aload_n 0, 1) := by decide +kernel
theorem dL_acts_854 : decode cL_acts 854 = .ok (.iconst 1, 1) := by decide +kernel
theorem dL_acts_855 : decode cL_acts 855 = .ok (.iload 25, 2) := by decide +kernel
theorem dL_acts_857 : decode cL_acts 857 = .ok (.bipush 61, 2) := by decide +kernel
theorem dL_acts_859 : decode cL_acts 859 = .ok (.irem, 1) := by decide +kernel
theorem dL_acts_860 : decode cL_acts 860 = .ok (.invokevirtual 66, 3) := by decide +kernel
theorem dL_acts_863 : decode cL_acts 863 = .ok (.ifCond .lt 50, 3) := by decide +kernel
theorem dL_acts_866 : decode cL_acts 866 = .ok (.aload_n 0, 1) := by decide +kernel
theorem dL_acts_867 : decode cL_acts 867 = .ok (.iconst 1, 1) := by decide +kernel
theorem dL_acts_868 : decode cL_acts 868 = .ok (.invokevirtual 23, 3) := by decide +kernel
theorem dL_acts_871 : decode cL_acts 871 = .ok (.iload 25, 2) := by decide +kernel
theorem dL_acts_873 : decode cL_acts 873 = .ok (.bipush 61, 2) := by decide +kernel
theorem dL_acts_875 : decode cL_acts 875 = .ok (.irem, 1) := by decide +kernel
theorem dL_acts_876 : decode cL_acts 876 = .ok (.if_icmp .ne 37, 3) := by decide +kernel
theorem dL_acts_879 : decode cL_acts 879 = .ok (.aload_n 0, 1) := by decide +kernel
theorem dL_acts_880 : decode cL_acts 880 = .ok (.iconst 0, 1) := by decide +kernel
theorem dL_acts_881 : decode cL_acts 881 = .ok (.iconst 1, 1) := by decide +kernel
theorem dL_acts_882 : decode cL_acts 882 = .ok (.iload 26, 2) := by decide +kernel
theorem dL_acts_884 : decode cL_acts 884 = .ok (.bipush 9, 2) := by decide +kernel
theorem dL_acts_886 : decode cL_acts 886 = .ok (.irem, 1) := by decide +kernel
theorem dL_acts_887 : decode cL_acts 887 = .ok (.iadd, 1) := by decide +kernel
theorem dL_acts_888 : decode cL_acts 888 = .ok (.invokevirtual 66, 3) := by decide +kernel
theorem dL_acts_891 : decode cL_acts 891 = .ok (.ifCond .le 22, 3) := by decide +kernel
theorem dL_acts_894 : decode cL_acts 894 = .ok (.aload_n 0, 1) := by decide +kernel
theorem dL_acts_895 : decode cL_acts 895 = .ok (.iconst 0, 1) := by decide +kernel
theorem dL_acts_896 : decode cL_acts 896 = .ok (.invokevirtual 23, 3) := by decide +kernel
theorem dL_acts_899 : decode cL_acts 899 = .ok (.iconst 1, 1) := by decide +kernel
theorem dL_acts_900 : decode cL_acts 900 = .ok (.iload 26, 2) := by decide +kernel
theorem dL_acts_902 : decode cL_acts 902 = .ok (.bipush 9, 2) := by decide +kernel
theorem dL_acts_904 : decode cL_acts 904 = .ok (.irem, 1) := by decide +kernel
theorem dL_acts_905 : decode cL_acts 905 = .ok (.iadd, 1) := by decide +kernel
theorem dL_acts_906 : decode cL_acts 906 = .ok (.if_icmp .ne 7, 3) := by decide +kernel
theorem dL_acts_909 : decode cL_acts 909 = .ok (.iconst 1, 1) := by decide +kernel
theorem dL_acts_910 : decode cL_acts 910 = .ok (.goto 69, 3) := by decide +kernel
theorem dL_acts_913 : decode cL_acts 913 = .ok (.iconst 0, 1) := by decide +kernel
theorem dL_acts_914 : decode cL_acts 914 = .ok (.goto 65, 3) := by decide +kernel
theorem dL_acts_917 : decode cL_acts 917 = .ok (.aload_n 0, 1) := by decide +kernel
theorem dL_acts_918 : decode cL_acts 918 = .ok (.iload 24, 2) := by decide +kernel
theorem dL_acts_920 : decode cL_acts 920 = .ok (.iload 25, 2) := by decide +kernel
theorem dL_acts_922 : decode cL_acts 922 = .ok (.iload 26, 2) := by decide +kernel
theorem dL_acts_924 : decode cL_acts 924 = .ok (.iload 27, 2) := by decide +kernel
theorem dL_acts_926 : decode cL_acts 926 = .ok (.invokevirtual 69, 3) := by decide +kernel
theorem dL_acts_929 : decode cL_acts 929 = .ok (.aload_n 0, 1) := by decide +kernel
theorem dL_acts_930 : decode cL_acts 930 = .ok (.bipush 7, 2) := by decide +kernel
theorem dL_acts_932 : decode cL_acts 932 = .ok (.invokevirtual 23, 3) := by decide +kernel
theorem dL_acts_935 : decode cL_acts 935 = .ok (.if_icmp .ne 43, 3) := by decide +kernel
theorem dL_acts_938 : decode cL_acts 938 = .ok (.aload_n 0, 1) := by decide +kernel
theorem dL_acts_939 : decode cL_acts 939 = .ok (.iload 24, 2) := by decide +kernel
theorem dL_acts_941 : decode cL_acts 941 = .ok (.iconst 0, 1) := by decide +kernel
theorem dL_acts_942 : decode cL_acts 942 = .ok (.invokevirtual 15, 3) := by decide +kernel
theorem dL_acts_945 : decode cL_acts 945 = .ok (.iload 25, 2) := by decide +kernel
theorem dL_acts_947 : decode cL_acts 947 = .ok (.if_icmp .ne 31, 3) := by decide +kernel
theorem dL_acts_950 : decode cL_acts 950 = .ok (.aload_n 0, 1) := by decide +kernel
theorem dL_acts_951 : decode cL_acts 951 = .ok (.iload 24, 2) := by decide +kernel
theorem dL_acts_953 : decode cL_acts 953 = .ok (.iconst 1, 1) := by decide +kernel
theorem dL_acts_954 : decode cL_acts 954 = .ok (.invokevirtual 15, 3) := by decide +kernel
theorem dL_acts_957 : decode cL_acts 957 = .ok (.iload 26, 2) := by decide +kernel
theorem dL_acts_959 : decode cL_acts 959 = .ok (.if_icmp .ne 19, 3) := by decide +kernel
theorem dL_acts_962 : decode cL_acts 962 = .ok (.aload_n 0, 1) := by decide +kernel
theorem dL_acts_963 : decode cL_acts 963 = .ok (.iload 24, 2) := by decide +kernel
theorem dL_acts_965 : decode cL_acts 965 = .ok (.iconst 2, 1) := by decide +kernel
theorem dL_acts_966 : decode cL_acts 966 = .ok (.invokevirtual 15, 3) := by decide +kernel
theorem dL_acts_969 : decode cL_acts 969 = .ok (.iload 27, 2) := by decide +kernel
theorem dL_acts_971 : decode cL_acts 971 = .ok (.if_icmp .ne 7, 3) := by decide +kernel
theorem dL_acts_974 : decode cL_acts 974 = .ok (.iconst 1, 1) := by decide +kernel
theorem dL_acts_975 : decode cL_acts 975 = .ok (.goto 4, 3) := by decide +kernel
theorem dL_acts_978 : decode cL_acts 978 = .ok (.iconst 0, 1) := by decide +kernel
theorem dL_acts_979 : decode cL_acts 979 = .ok (.ireturn, 1) := by decide +kernel
set_option maxRecDepth 20000 in
theorem ggL_law_X4_init : GoodIn wsL_law wsX4_init := goodIn_r _ [5, 6, 7, 8, 9, 10, 11, 12, 13, 14, 15, 16, 17, 18, 19, 20, 21, 22, 23, 24, 25, 26, 27, 28, 29, 30, 31, 32, 33, 34, 35, 36, 37, 38, 39, 40, 41, 42, 2, 43, 44, 45, 46, 47, 48, 49, 50, 51, 52, 53, 54, 55, 56, 57, 58, 59, 60, 61, 62, 63, 64, 65, 66, 67, 68, 69, 70, 71, 72, 73, 74, 75, 76, 77, 395, 396, 397, 398, 399, 400, 401, 402, 403, 404, 405, 406, 388, 389, 390, 391, 392, 393, 394, 407, 408, 409, 410, 411, 412, 413, 414, 415, 416, 417, 418, 419, 420, 421] (by decide +kernel) (by decide +kernel)
set_option maxRecDepth 20000 in
theorem gL_law_X4_init : GoodIn wsL_law (wsX4_init) := ggL_law_X4_init
set_option maxRecDepth 20000 in
theorem ggL_law_X4_undo : GoodIn wsL_law wsX4_undo := goodIn_r _ [81, 24, 23, 12, 21, 82, 83, 2, 84, 85, 86, 87, 11, 88, 30, 31, 32, 33, 34, 35, 36, 37, 38, 39, 89, 90, 91, 92, 93, 94, 95, 96, 97, 98, 388, 389, 390, 391, 392, 393, 394, 395, 396, 397, 398, 399, 400, 401, 402, 403, 404, 405, 406] (by decide +kernel) (by decide +kernel)
set_option maxRecDepth 20000 in
theorem gL_law_X4_undo : GoodIn wsL_law (wsV RL 74 RX4 yX4_undo wsX4_undo) := goodIn_app (goodIn_of _ (by decide +kernel)) ggL_law_X4_undo
set_option maxRecDepth 20000 in
theorem ggL_law_X4_restore : GoodIn wsL_law wsX4_restore := goodIn_r _ [102, 22, 12, 103, 104, 2, 105, 82, 83, 84, 106, 107, 108, 109, 21, 23, 85, 86, 87, 11, 88, 30, 31, 32, 33, 34, 35, 36, 37, 38, 39, 89, 90, 91, 92, 93, 94, 95, 96, 97, 98, 110, 111, 112, 113, 114, 115, 116, 117, 118, 119, 120, 121, 24, 388, 389, 390, 391, 392, 393, 394, 395, 396, 397, 398, 399, 400, 401, 402, 403, 404, 405, 406] (by decide +kernel) (by decide +kernel)
set_option maxRecDepth 20000 in
theorem gL_law_X4_restore : GoodIn wsL_law (wsV RL 77 RX4 yX4_restore wsX4_restore) := goodIn_app (goodIn_of _ (by decide +kernel)) ggL_law_X4_restore
set_option maxRecDepth 20000 in
theorem ggL_law_X4_nearest : GoodIn wsL_law wsX4_nearest := goodIn_r _ [125, 16, 12, 103, 104, 2, 105, 126, 127, 128, 15, 129, 48, 130, 131, 132, 11, 133, 114, 115, 116, 117, 31, 134, 135, 136, 137, 138, 139, 140, 141, 142, 143, 144, 145, 146, 147, 148, 149, 33, 150, 151, 93, 152, 153, 388, 389, 390, 391, 392, 393, 394, 407, 408, 409, 410, 411, 412, 395, 396, 397, 398, 399, 400, 401, 402, 403, 404, 405, 406] (by decide +kernel) (by decide +kernel)
set_option maxRecDepth 20000 in
theorem gL_law_X4_nearest : GoodIn wsL_law (wsV RL 36 RX4 yX4_nearest wsX4_nearest) := goodIn_app (goodIn_of _ (by decide +kernel)) ggL_law_X4_nearest
set_option maxRecDepth 20000 in
theorem ggL_law_X4_bestMixture : GoodIn wsL_law wsX4_bestMixture := goodIn_r _ [157, 16, 103, 104, 2, 105, 158, 159, 160, 15, 161, 49, 48, 42, 43, 130, 131, 132, 11, 133, 114, 115, 116, 117, 31, 162, 163, 164, 165, 50, 51, 166, 167, 168, 169, 170, 142, 143, 171, 172, 173, 174, 144, 145, 175, 147, 148, 149, 33, 150, 151, 93, 152, 388, 389, 390, 391, 392, 393, 394, 407, 408, 409, 410, 411, 412, 395, 396, 397, 398, 399, 400, 401, 402, 403, 404, 405, 406] (by decide +kernel) (by decide +kernel)
set_option maxRecDepth 20000 in
theorem gL_law_X4_bestMixture : GoodIn wsL_law (wsV RL 80 RX4 yX4_bestMixture wsX4_bestMixture) := goodIn_app (goodIn_of _ (by decide +kernel)) ggL_law_X4_bestMixture
set_option maxRecDepth 20000 in
theorem ggL_law_X4_brush : GoodIn wsL_law wsX4_brush := goodIn_r _ [179, 12, 180, 181, 182, 11, 183, 184, 2, 185, 186, 168, 169, 170, 31, 142, 143, 114, 115, 116, 117, 187, 131, 132, 133, 138, 139, 140, 141, 144, 145, 388, 389, 390, 391, 392, 393, 394, 395, 396, 397, 398, 399, 400, 401, 402, 403, 404, 405, 406] (by decide +kernel) (by decide +kernel)
set_option maxRecDepth 20000 in
theorem gL_law_X4_brush : GoodIn wsL_law (wsV RL 27 RX4 yX4_brush wsX4_brush) := goodIn_app (goodIn_of _ (by decide +kernel)) ggL_law_X4_brush
set_option maxRecDepth 20000 in
theorem ggL_law_X4_panel : GoodIn wsL_law wsX4_panel := goodIn_r _ [191, 12, 103, 104, 2, 105, 192, 193, 194, 11, 195, 33, 35, 34, 184, 185, 142, 143, 196, 197, 198, 199, 30, 200, 201, 202, 203, 204, 205, 206, 207, 146, 147, 148, 149, 150, 151, 93, 152, 388, 389, 390, 391, 392, 393, 394, 395, 396, 397, 398, 399, 400, 401, 402, 403, 404, 405, 406] (by decide +kernel) (by decide +kernel)
set_option maxRecDepth 20000 in
theorem gL_law_X4_panel : GoodIn wsL_law (wsV RL 15 RX4 yX4_panel wsX4_panel) := goodIn_app (goodIn_of _ (by decide +kernel)) ggL_law_X4_panel
set_option maxRecDepth 20000 in
theorem ggL_law_L_cell : GoodIn wsL_law wsL_cell := goodIn_r _ [211, 212, 213] (by decide +kernel) (by decide +kernel)
set_option maxRecDepth 20000 in
theorem gL_law_L_cell : GoodIn wsL_law (va_wsS RL 83 yL_cell wsL_cell) := goodIn_app (goodIn_of _ (by decide +kernel)) ggL_law_L_cell
set_option maxRecDepth 20000 in
theorem ggL_law_L_acts_r1 : GoodIn wsL_law wsL_acts_r1 := goodIn_r _ [217, 218, 219, 2, 220, 12, 103, 104, 105, 221, 222, 223, 11, 224, 32, 142, 143, 180, 181, 182, 183, 184, 185, 186] (by decide +kernel) (by decide +kernel)
set_option maxRecDepth 20000 in
theorem ggL_law_L_acts_r2 : GoodIn wsL_law wsL_acts_r2 := goodIn_r _ [168, 169, 170, 31, 114, 115, 116, 117, 187, 131, 132, 133, 138, 139, 140, 141, 144, 145, 176, 177, 178, 179, 225, 226] (by decide +kernel) (by decide +kernel)
set_option maxRecDepth 20000 in
theorem ggL_law_L_acts_r3 : GoodIn wsL_law wsL_acts_r3 := goodIn_r _ [227, 228, 106, 107, 108, 109, 21, 23, 82, 83, 84, 85, 86, 87, 88, 30, 33, 34, 35, 36, 37, 38, 39, 89] (by decide +kernel) (by decide +kernel)
set_option maxRecDepth 20000 in
theorem ggL_law_L_acts_r4 : GoodIn wsL_law wsL_acts_r4 := goodIn_r _ [90, 91, 92, 93, 94, 95, 96, 97, 98, 229, 230, 231, 232, 233, 234, 235, 236, 42, 43, 118, 119, 120, 121, 24] (by decide +kernel) (by decide +kernel)
set_option maxRecDepth 20000 in
theorem ggL_law_L_acts_r5 : GoodIn wsL_law wsL_acts_r5 := goodIn_r _ [237, 238, 239, 240, 241, 242, 243, 244, 245, 246, 247, 248, 249, 250, 251, 252, 253, 254, 255, 256, 40, 257, 258, 259] (by decide +kernel) (by decide +kernel)
set_option maxRecDepth 20000 in
theorem ggL_law_L_acts_r6 : GoodIn wsL_law wsL_acts_r6 := goodIn_r _ [260, 41, 261, 262, 263, 264, 265, 266, 267, 268, 269, 270, 271, 272, 273, 274, 188, 189, 190, 191, 192, 193, 194, 195] (by decide +kernel) (by decide +kernel)
set_option maxRecDepth 20000 in
theorem ggL_law_L_acts_r7 : GoodIn wsL_law wsL_acts_r7 := goodIn_r _ [196, 197, 198, 199, 200, 201, 202, 203, 204, 205, 206, 207, 146, 147, 148, 149, 150, 151, 152, 275, 276, 277, 278, 279] (by decide +kernel) (by decide +kernel)
set_option maxRecDepth 20000 in
theorem ggL_law_L_acts_r8 : GoodIn wsL_law wsL_acts_r8 := goodIn_r _ [280, 281, 282, 283, 284, 285, 286, 20, 287, 288, 289, 19, 290, 59, 291, 292, 293, 294, 295, 111, 112, 113, 296, 297] (by decide +kernel) (by decide +kernel)
set_option maxRecDepth 20000 in
theorem ggL_law_L_acts_r9 : GoodIn wsL_law wsL_acts_r9 := goodIn_r _ [298, 299, 300, 301, 302, 303, 304, 305, 306, 307, 308, 309, 310, 311, 312, 313, 314, 315, 316, 317, 318, 319, 320, 321] (by decide +kernel) (by decide +kernel)
set_option maxRecDepth 20000 in
theorem ggL_law_L_acts_r10 : GoodIn wsL_law wsL_acts_r10 := goodIn_r _ [322, 323, 324, 325, 326, 327, 328, 329, 330, 331, 332, 333, 334, 335, 336, 337, 338, 339, 340, 341, 342, 343, 344, 345] (by decide +kernel) (by decide +kernel)
set_option maxRecDepth 20000 in
theorem ggL_law_L_acts_r11 : GoodIn wsL_law wsL_acts_r11 := goodIn_r _ [346] (by decide +kernel) (by decide +kernel)
set_option maxRecDepth 20000 in
theorem ggL_law_L_acts_X4 : GoodIn wsL_law wsX40 := goodIn_r _ [388, 389, 390, 391, 392, 393, 394] (by decide +kernel) (by decide +kernel)
set_option maxRecDepth 20000 in
theorem ggL_law_L_acts_X2 : GoodIn wsL_law wsX20 := goodIn_r _ [395, 396, 397, 398, 399, 400, 401, 402, 403, 404, 405, 406] (by decide +kernel) (by decide +kernel)
set_option maxRecDepth 20000 in
theorem ggL_law_L_acts_X1 : GoodIn wsL_law wsX10 := goodIn_r _ [413, 414, 415, 416] (by decide +kernel) (by decide +kernel)
set_option maxRecDepth 20000 in
theorem ggL_law_L_acts_c : GoodIn wsL_law [Cond.code yL_acts cL_acts 28 (some .boolean)] := fun w h => by
  rw [List.mem_singleton] at h
  subst h
  exact ⟨List.mem_of_getElem? (i := 216) rfl, Or.inl rfl⟩
theorem ggL_law_L_acts : GoodIn wsL_law wsL_acts := goodIn_app (a := [Cond.code yL_acts cL_acts 28 (some .boolean)]) ggL_law_L_acts_c (goodIn_app (goodIn_app (goodIn_app (goodIn_app ggL_law_L_acts_r1 (goodIn_app ggL_law_L_acts_r2 (goodIn_app ggL_law_L_acts_r3 (goodIn_app ggL_law_L_acts_r4 (goodIn_app ggL_law_L_acts_r5 (goodIn_app ggL_law_L_acts_r6 (goodIn_app ggL_law_L_acts_r7 (goodIn_app ggL_law_L_acts_r8 (goodIn_app ggL_law_L_acts_r9 (goodIn_app ggL_law_L_acts_r10 ggL_law_L_acts_r11)))))))))) ggL_law_L_acts_X4) ggL_law_L_acts_X2) ggL_law_L_acts_X1)
set_option maxRecDepth 20000 in
theorem gL_law_L_acts : GoodIn wsL_law (va_wsS RL 87 yL_acts wsL_acts) := goodIn_app (goodIn_of _ (by decide +kernel)) ggL_law_L_acts
set_option maxRecDepth 20000 in
theorem ggL_law_L_areDrops : GoodIn wsL_law wsL_areDrops := goodIn_r _ [349, 217, 218, 219, 2, 220, 12, 103, 104, 105, 221, 222, 223, 11, 224, 32, 142, 143, 180, 181, 182, 183, 184, 185, 186, 168, 169, 170, 31, 114, 115, 116, 117, 187, 131, 132, 133, 138, 139, 140, 141, 144, 145, 188, 189, 190, 191, 192, 193, 194, 195, 33, 35, 34, 196, 197, 198, 199, 30, 200, 201, 202, 203, 204, 205, 206, 207, 146, 147, 148, 149, 150, 151, 93, 152, 350, 351, 210, 352, 283, 284, 285, 286, 20, 24, 287, 288, 289, 19, 290, 59, 291, 292, 293, 294, 36, 37, 38, 39, 295, 111, 112, 113, 296, 297, 298, 299, 300, 301, 302, 303, 304, 305, 306, 307, 176, 177, 178, 179, 388, 389, 390, 391, 392, 393, 394, 395, 396, 397, 398, 399, 400, 401, 402, 403, 404, 405, 406, 413, 414, 415, 416] (by decide +kernel) (by decide +kernel)
set_option maxRecDepth 20000 in
theorem gL_law_L_areDrops : GoodIn wsL_law (va_wsS RL 91 yL_areDrops wsL_areDrops) := goodIn_app (goodIn_of _ (by decide +kernel)) ggL_law_L_areDrops
set_option maxRecDepth 20000 in
theorem ggL_law_X4_count : GoodIn wsL_law wsX4_count := goodIn_r _ [286, 20, 24, 12, 287, 288, 289, 19, 290, 59, 291, 292, 293, 11, 294, 30, 36, 37, 38, 39, 142, 2, 143, 295, 111, 112, 113, 114, 115, 116, 117, 31, 296, 297, 298, 299, 200, 201, 202, 203, 35, 300, 301, 302, 303, 196, 197, 198, 199, 204, 205, 206, 207, 34, 146, 147, 148, 149, 33, 150, 151, 93, 152, 304, 305, 306, 307, 388, 389, 390, 391, 392, 393, 394, 413, 414, 415, 416, 395, 396, 397, 398, 399, 400, 401, 402, 403, 404, 405, 406] (by decide +kernel) (by decide +kernel)
set_option maxRecDepth 20000 in
theorem gL_law_X4_count : GoodIn wsL_law (wsV RL 23 RX4 yX4_count wsX4_count) := goodIn_app (goodIn_of _ (by decide +kernel)) ggL_law_X4_count
set_option maxRecDepth 20000 in
theorem ggL_law_L_areNear_r1 : GoodIn wsL_law wsL_areNear_r1 := goodIn_r _ [283, 284, 285, 2, 286, 20, 24, 12, 287, 288, 289, 19, 290, 59, 291, 292, 293, 11, 294, 30, 36, 37, 38, 39] (by decide +kernel) (by decide +kernel)
set_option maxRecDepth 20000 in
theorem ggL_law_L_areNear_r2 : GoodIn wsL_law wsL_areNear_r2 := goodIn_r _ [142, 143, 295, 111, 112, 113, 114, 115, 116, 117, 31, 296, 297, 298, 299, 200, 201, 202, 203, 35, 300, 301, 302, 303] (by decide +kernel) (by decide +kernel)
set_option maxRecDepth 20000 in
theorem ggL_law_L_areNear_r3 : GoodIn wsL_law wsL_areNear_r3 := goodIn_r _ [196, 197, 198, 199, 204, 205, 206, 207, 34, 146, 147, 148, 149, 33, 150, 151, 93, 152, 304, 305, 306, 307, 356, 357] (by decide +kernel) (by decide +kernel)
set_option maxRecDepth 20000 in
theorem ggL_law_L_areNear_r4 : GoodIn wsL_law wsL_areNear_r4 := goodIn_r _ [358, 359, 16, 103, 104, 105, 360, 361, 362, 15, 363, 52, 53, 364, 365, 366, 367, 368, 127, 128, 129, 48, 130, 131] (by decide +kernel) (by decide +kernel)
set_option maxRecDepth 20000 in
theorem ggL_law_L_areNear_r5 : GoodIn wsL_law wsL_areNear_r5 := goodIn_r _ [132, 133, 134, 135, 136, 137, 138, 139, 140, 141, 144, 145, 42, 43, 369, 370, 371, 372, 373, 374, 375, 376, 377, 378] (by decide +kernel) (by decide +kernel)
set_option maxRecDepth 20000 in
theorem ggL_law_L_areNear_r6 : GoodIn wsL_law wsL_areNear_r6 := goodIn_r _ [379, 380, 122, 123, 124, 125, 126, 153, 217, 218, 219, 220, 221, 222, 223, 224, 32, 180, 181, 182, 183, 184, 185, 186] (by decide +kernel) (by decide +kernel)
set_option maxRecDepth 20000 in
theorem ggL_law_L_areNear_r7 : GoodIn wsL_law wsL_areNear_r7 := goodIn_r _ [168, 169, 170, 187, 381, 382, 210, 383, 188, 189, 190, 191, 192, 193, 194, 195, 350, 351, 352] (by decide +kernel) (by decide +kernel)
set_option maxRecDepth 20000 in
theorem ggL_law_L_areNear_X4 : GoodIn wsL_law wsX40 := goodIn_r _ [388, 389, 390, 391, 392, 393, 394] (by decide +kernel) (by decide +kernel)
set_option maxRecDepth 20000 in
theorem ggL_law_L_areNear_X1 : GoodIn wsL_law wsX10 := goodIn_r _ [413, 414, 415, 416] (by decide +kernel) (by decide +kernel)
set_option maxRecDepth 20000 in
theorem ggL_law_L_areNear_X2 : GoodIn wsL_law wsX20 := goodIn_r _ [395, 396, 397, 398, 399, 400, 401, 402, 403, 404, 405, 406] (by decide +kernel) (by decide +kernel)
set_option maxRecDepth 20000 in
theorem ggL_law_L_areNear_X0 : GoodIn wsL_law wsX00 := goodIn_r _ [407, 408, 409, 410, 411, 412] (by decide +kernel) (by decide +kernel)
set_option maxRecDepth 20000 in
theorem ggL_law_L_areNear_c : GoodIn wsL_law [Cond.code yL_areNear cL_areNear 10 (some .boolean)] := fun w h => by
  rw [List.mem_singleton] at h
  subst h
  exact ⟨List.mem_of_getElem? (i := 355) rfl, Or.inl rfl⟩
theorem ggL_law_L_areNear : GoodIn wsL_law wsL_areNear := goodIn_app (a := [Cond.code yL_areNear cL_areNear 10 (some .boolean)]) ggL_law_L_areNear_c (goodIn_app (goodIn_app (goodIn_app (goodIn_app (goodIn_app ggL_law_L_areNear_r1 (goodIn_app ggL_law_L_areNear_r2 (goodIn_app ggL_law_L_areNear_r3 (goodIn_app ggL_law_L_areNear_r4 (goodIn_app ggL_law_L_areNear_r5 (goodIn_app ggL_law_L_areNear_r6 ggL_law_L_areNear_r7)))))) ggL_law_L_areNear_X4) ggL_law_L_areNear_X1) ggL_law_L_areNear_X2) ggL_law_L_areNear_X0)
set_option maxRecDepth 20000 in
theorem gL_law_L_areNear : GoodIn wsL_law (va_wsS RL 95 yL_areNear wsL_areNear) := goodIn_app (goodIn_of _ (by decide +kernel)) ggL_law_L_areNear
set_option maxRecDepth 20000 in
theorem ggL_law_X4_save : GoodIn wsL_law wsX4_save := goodIn_r _ [387, 22, 9, 10, 11, 12, 25, 26, 27, 28, 7, 8, 29, 30, 31, 32, 33, 34, 35, 36, 37, 38, 39, 40, 41, 42, 2, 43, 85, 86, 87, 88, 89, 90, 91, 92, 93, 94, 95, 96, 97, 98, 110, 111, 112, 113, 114, 115, 116, 117, 388, 389, 390, 391, 392, 393, 394, 395, 396, 397, 398, 399, 400, 401, 402, 403, 404, 405, 406] (by decide +kernel) (by decide +kernel)
set_option maxRecDepth 20000 in
theorem gL_law_X4_save : GoodIn wsL_law (wsV RL 98 RX4 yX4_save wsX4_save) := goodIn_app (goodIn_of _ (by decide +kernel)) ggL_law_X4_save
set_option maxRecDepth 20000 in
theorem ggL_law_X4_rinse : GoodIn wsL_law wsX4_rinse := goodIn_r _ [323, 12, 106, 107, 108, 2, 109, 21, 23, 82, 83, 84, 85, 86, 87, 11, 88, 30, 31, 32, 33, 34, 35, 36, 37, 38, 39, 89, 90, 91, 92, 93, 94, 95, 96, 97, 98, 324, 325, 326, 327, 316, 317, 318, 319, 114, 115, 116, 117, 42, 43, 118, 119, 120, 121, 24, 388, 389, 390, 391, 392, 393, 394, 395, 396, 397, 398, 399, 400, 401, 402, 403, 404, 405, 406] (by decide +kernel) (by decide +kernel)
set_option maxRecDepth 20000 in
theorem gL_law_X4_rinse : GoodIn wsL_law (wsV RL 62 RX4 yX4_rinse wsX4_rinse) := goodIn_app (goodIn_of _ (by decide +kernel)) ggL_law_X4_rinse
set_option maxRecDepth 20000 in
theorem ggL_law_X4_empty : GoodIn wsL_law wsX4_empty := goodIn_r _ [311, 12, 106, 107, 108, 2, 109, 21, 23, 82, 83, 84, 85, 86, 87, 11, 88, 30, 31, 32, 33, 34, 35, 36, 37, 38, 39, 89, 90, 91, 92, 93, 94, 95, 96, 97, 98, 312, 313, 314, 315, 104, 105, 316, 317, 318, 319, 114, 115, 116, 117, 42, 43, 118, 119, 120, 121, 24, 388, 389, 390, 391, 392, 393, 394, 395, 396, 397, 398, 399, 400, 401, 402, 403, 404, 405, 406] (by decide +kernel) (by decide +kernel)
set_option maxRecDepth 20000 in
theorem gL_law_X4_empty : GoodIn wsL_law (wsV RL 59 RX4 yX4_empty wsX4_empty) := goodIn_app (goodIn_of _ (by decide +kernel)) ggL_law_X4_empty
set_option maxRecDepth 20000 in
theorem ggL_law_X4_pot : GoodIn wsL_law wsX4_pot := goodIn_r _ [220, 12, 103, 104, 2, 105, 221, 222, 223, 11, 224, 32, 142, 143, 180, 181, 182, 183, 184, 185, 186, 168, 169, 170, 31, 114, 115, 116, 117, 187, 131, 132, 133, 138, 139, 140, 141, 144, 145, 388, 389, 390, 391, 392, 393, 394, 395, 396, 397, 398, 399, 400, 401, 402, 403, 404, 405, 406] (by decide +kernel) (by decide +kernel)
set_option maxRecDepth 20000 in
theorem gL_law_X4_pot : GoodIn wsL_law (wsV RL 9 RX4 yX4_pot wsX4_pot) := goodIn_app (goodIn_of _ (by decide +kernel)) ggL_law_X4_pot
theorem dL_law_0 : decode cL_law 0 = .ok (.new 10, 3) := by decide +kernel
theorem dL_law_3 : decode cL_law 3 = .ok (.dup, 1) := by decide +kernel
theorem dL_law_4 : decode cL_law 4 = .ok (.invokespecial 73, 3) := by decide +kernel
theorem dL_law_7 : decode cL_law 7 = .ok (.astore_n 1, 1) := by decide +kernel
theorem dL_law_8 : decode cL_law 8 = .ok (.aload_n 1, 1) := by decide +kernel
theorem dL_law_9 : decode cL_law 9 = .ok (.invokevirtual 74, 3) := by decide +kernel
theorem dL_law_12 : decode cL_law 12 = .ok (.bipush (-5), 2) := by decide +kernel
theorem dL_law_14 : decode cL_law 14 = .ok (.if_icmp .ne 61, 3) := by decide +kernel
theorem dL_law_17 : decode cL_law 17 = .ok (.aload_n 1, 1) := by decide +kernel
theorem dL_law_18 : decode cL_law 18 = .ok (.iconst 1, 1) := by decide +kernel
theorem dL_law_19 : decode cL_law 19 = .ok (.invokevirtual 77, 3) := by decide +kernel
theorem dL_law_22 : decode cL_law 22 = .ok (.bipush (-5), 2) := by decide +kernel
theorem dL_law_24 : decode cL_law 24 = .ok (.if_icmp .ne 51, 3) := by decide +kernel
theorem dL_law_27 : decode cL_law 27 = .ok (.aload_n 1, 1) := by decide +kernel
theorem dL_law_28 : decode cL_law 28 = .ok (.iconst 0, 1) := by decide +kernel
theorem dL_law_29 : decode cL_law 29 = .ok (.iconst 0, 1) := by decide +kernel
theorem dL_law_30 : decode cL_law 30 = .ok (.invokevirtual 36, 3) := by decide +kernel
theorem dL_law_33 : decode cL_law 33 = .ok (.bipush (-6), 2) := by decide +kernel
theorem dL_law_35 : decode cL_law 35 = .ok (.if_icmp .ne 40, 3) := by decide +kernel
theorem dL_law_38 : decode cL_law 38 = .ok (.aload_n 1, 1) := by decide +kernel
theorem dL_law_39 : decode cL_law 39 = .ok (.iconst 0, 1) := by decide +kernel
theorem dL_law_40 : decode cL_law 40 = .ok (.iconst 0, 1) := by decide +kernel
theorem dL_law_41 : decode cL_law 41 = .ok (.invokevirtual 80, 3) := by decide +kernel
theorem dL_law_44 : decode cL_law 44 = .ok (.bipush (-6), 2) := by decide +kernel
theorem dL_law_46 : decode cL_law 46 = .ok (.if_icmp .ne 29, 3) := by decide +kernel
theorem dL_law_49 : decode cL_law 49 = .ok (.aload_n 1, 1) := by decide +kernel
theorem dL_law_50 : decode cL_law 50 = .ok (.iconst 5, 1) := by decide +kernel
theorem dL_law_51 : decode cL_law 51 = .ok (.invokevirtual 27, 3) := by decide +kernel
theorem dL_law_54 : decode cL_law 54 = .ok (.bipush (-6), 2) := by decide +kernel
theorem dL_law_56 : decode cL_law 56 = .ok (.if_icmp .ne 19, 3) := by decide +kernel
theorem dL_law_59 : decode cL_law 59 = .ok (.aload_n 1, 1) := by decide +kernel
theorem dL_law_60 : decode cL_law 60 = .ok (.iconst 0, 1) := by decide +kernel
theorem dL_law_61 : decode cL_law 61 = .ok (.bipush 6, 2) := by decide +kernel
theorem dL_law_63 : decode cL_law 63 = .ok (.invokevirtual 15, 3) := by decide +kernel
theorem dL_law_66 : decode cL_law 66 = .ok (.bipush (-6), 2) := by decide +kernel
theorem dL_law_68 : decode cL_law 68 = .ok (.if_icmp .ne 7, 3) := by decide +kernel
theorem dL_law_71 : decode cL_law 71 = .ok (.iconst 1, 1) := by decide +kernel
theorem dL_law_72 : decode cL_law 72 = .ok (.goto 4, 3) := by decide +kernel
theorem dL_law_75 : decode cL_law 75 = .ok (.iconst 0, 1) := by decide +kernel
theorem dL_law_76 : decode cL_law 76 = .ok (.istore_n 2, 1) := by decide +kernel
theorem dL_law_77 : decode cL_law 77 = .ok (.iconst 0, 1) := by decide +kernel
theorem dL_law_78 : decode cL_law 78 = .ok (.istore_n 3, 1) := by decide +kernel
theorem dL_law_79 : decode cL_law 79 = .ok (.iload_n 3, 1) := by decide +kernel
theorem dL_law_80 : decode cL_law 80 = .ok (.bipush 44, 2) := by decide +kernel
theorem dL_law_82 : decode cL_law 82 = .ok (.if_icmp .ge 45, 3) := by decide +kernel
theorem dL_law_85 : decode cL_law 85 = .ok (.iload_n 2, 1) := by decide +kernel
theorem dL_law_86 : decode cL_law 86 = .ok (.ifCond .eq 41, 3) := by decide +kernel
theorem dL_law_89 : decode cL_law 89 = .ok (.aload_n 1, 1) := by decide +kernel
theorem dL_law_90 : decode cL_law 90 = .ok (.aload_n 0, 1) := by decide +kernel
theorem dL_law_91 : decode cL_law 91 = .ok (.iload_n 3, 1) := by decide +kernel
theorem dL_law_92 : decode cL_law 92 = .ok (.invokestatic 83, 3) := by decide +kernel
theorem dL_law_95 : decode cL_law 95 = .ok (.invokestatic 87, 3) := by decide +kernel
theorem dL_law_98 : decode cL_law 98 = .ok (.ifCond .eq 21, 3) := by decide +kernel
theorem dL_law_101 : decode cL_law 101 = .ok (.iload_n 3, 1) := by decide +kernel
theorem dL_law_102 : decode cL_law 102 = .ok (.bipush 15, 2) := by decide +kernel
theorem dL_law_104 : decode cL_law 104 = .ok (.irem, 1) := by decide +kernel
theorem dL_law_105 : decode cL_law 105 = .ok (.ifCond .gt 10, 3) := by decide +kernel
theorem dL_law_108 : decode cL_law 108 = .ok (.aload_n 1, 1) := by decide +kernel
theorem dL_law_109 : decode cL_law 109 = .ok (.invokestatic 91, 3) := by decide +kernel
theorem dL_law_112 : decode cL_law 112 = .ok (.ifCond .eq 7, 3) := by decide +kernel
theorem dL_law_115 : decode cL_law 115 = .ok (.iconst 1, 1) := by decide +kernel
theorem dL_law_116 : decode cL_law 116 = .ok (.goto 4, 3) := by decide +kernel
theorem dL_law_119 : decode cL_law 119 = .ok (.iconst 0, 1) := by decide +kernel
theorem dL_law_120 : decode cL_law 120 = .ok (.istore_n 2, 1) := by decide +kernel
theorem dL_law_121 : decode cL_law 121 = .ok (.iinc 3 1, 3) := by decide +kernel
theorem dL_law_124 : decode cL_law 124 = .ok (.goto (-45), 3) := by decide +kernel
theorem dL_law_127 : decode cL_law 127 = .ok (.aload_n 1, 1) := by decide +kernel
theorem dL_law_128 : decode cL_law 128 = .ok (.iconst 3, 1) := by decide +kernel
theorem dL_law_129 : decode cL_law 129 = .ok (.invokevirtual 23, 3) := by decide +kernel
theorem dL_law_132 : decode cL_law 132 = .ok (.istore_n 3, 1) := by decide +kernel
theorem dL_law_133 : decode cL_law 133 = .ok (.aload_n 1, 1) := by decide +kernel
theorem dL_law_134 : decode cL_law 134 = .ok (.iconst 5, 1) := by decide +kernel
theorem dL_law_135 : decode cL_law 135 = .ok (.invokevirtual 23, 3) := by decide +kernel
theorem dL_law_138 : decode cL_law 138 = .ok (.istore 4, 2) := by decide +kernel
theorem dL_law_140 : decode cL_law 140 = .ok (.iload_n 2, 1) := by decide +kernel
theorem dL_law_141 : decode cL_law 141 = .ok (.ifCond .eq 72, 3) := by decide +kernel
theorem dL_law_144 : decode cL_law 144 = .ok (.aload_n 1, 1) := by decide +kernel
theorem dL_law_145 : decode cL_law 145 = .ok (.invokestatic 91, 3) := by decide +kernel
theorem dL_law_148 : decode cL_law 148 = .ok (.ifCond .eq 65, 3) := by decide +kernel
theorem dL_law_151 : decode cL_law 151 = .ok (.aload_n 1, 1) := by decide +kernel
theorem dL_law_152 : decode cL_law 152 = .ok (.invokestatic 95, 3) := by decide +kernel
theorem dL_law_155 : decode cL_law 155 = .ok (.ifCond .eq 58, 3) := by decide +kernel
theorem dL_law_158 : decode cL_law 158 = .ok (.aload_n 1, 1) := by decide +kernel
theorem dL_law_159 : decode cL_law 159 = .ok (.iconst 1, 1) := by decide +kernel
theorem dL_law_160 : decode cL_law 160 = .ok (.invokevirtual 98, 3) := by decide +kernel
theorem dL_law_163 : decode cL_law 163 = .ok (.iload_n 3, 1) := by decide +kernel
theorem dL_law_164 : decode cL_law 164 = .ok (.if_icmp .ne 49, 3) := by decide +kernel
theorem dL_law_167 : decode cL_law 167 = .ok (.aload_n 1, 1) := by decide +kernel
theorem dL_law_168 : decode cL_law 168 = .ok (.invokevirtual 62, 3) := by decide +kernel
theorem dL_law_171 : decode cL_law 171 = .ok (.ifCond .lt 42, 3) := by decide +kernel
theorem dL_law_174 : decode cL_law 174 = .ok (.aload_n 1, 1) := by decide +kernel
theorem dL_law_175 : decode cL_law 175 = .ok (.iconst 0, 1) := by decide +kernel
theorem dL_law_176 : decode cL_law 176 = .ok (.invokevirtual 59, 3) := by decide +kernel
theorem dL_law_179 : decode cL_law 179 = .ok (.ifCond .lt 34, 3) := by decide +kernel
theorem dL_law_182 : decode cL_law 182 = .ok (.aload_n 1, 1) := by decide +kernel
theorem dL_law_183 : decode cL_law 183 = .ok (.iconst 1, 1) := by decide +kernel
theorem dL_law_184 : decode cL_law 184 = .ok (.invokevirtual 59, 3) := by decide +kernel
theorem dL_law_187 : decode cL_law 187 = .ok (.ifCond .lt 26, 3) := by decide +kernel
theorem dL_law_190 : decode cL_law 190 = .ok (.aload_n 1, 1) := by decide +kernel
theorem dL_law_191 : decode cL_law 191 = .ok (.iconst 1, 1) := by decide +kernel
theorem dL_law_192 : decode cL_law 192 = .ok (.invokevirtual 77, 3) := by decide +kernel
theorem dL_law_195 : decode cL_law 195 = .ok (.iload_n 3, 1) := by decide +kernel
theorem dL_law_196 : decode cL_law 196 = .ok (.if_icmp .ne 17, 3) := by decide +kernel
theorem dL_law_199 : decode cL_law 199 = .ok (.aload_n 1, 1) := by decide +kernel
theorem dL_law_200 : decode cL_law 200 = .ok (.iconst 5, 1) := by decide +kernel
theorem dL_law_201 : decode cL_law 201 = .ok (.invokevirtual 23, 3) := by decide +kernel
theorem dL_law_204 : decode cL_law 204 = .ok (.iload 4, 2) := by decide +kernel
theorem dL_law_206 : decode cL_law 206 = .ok (.if_icmp .ne 7, 3) := by decide +kernel
theorem dL_law_209 : decode cL_law 209 = .ok (.iconst 1, 1) := by decide +kernel
theorem dL_law_210 : decode cL_law 210 = .ok (.goto 4, 3) := by decide +kernel
theorem dL_law_213 : decode cL_law 213 = .ok (.iconst 0, 1) := by decide +kernel
theorem dL_law_214 : decode cL_law 214 = .ok (.istore_n 2, 1) := by decide +kernel
theorem dL_law_215 : decode cL_law 215 = .ok (.iload_n 2, 1) := by decide +kernel
theorem dL_law_216 : decode cL_law 216 = .ok (.ifCond .eq 32, 3) := by decide +kernel
theorem dL_law_219 : decode cL_law 219 = .ok (.aload_n 1, 1) := by decide +kernel
theorem dL_law_220 : decode cL_law 220 = .ok (.invokevirtual 74, 3) := by decide +kernel
theorem dL_law_223 : decode cL_law 223 = .ok (.ifCond .lt 25, 3) := by decide +kernel
theorem dL_law_226 : decode cL_law 226 = .ok (.aload_n 1, 1) := by decide +kernel
theorem dL_law_227 : decode cL_law 227 = .ok (.iconst 0, 1) := by decide +kernel
theorem dL_law_228 : decode cL_law 228 = .ok (.iconst 4, 1) := by decide +kernel
theorem dL_law_229 : decode cL_law 229 = .ok (.invokevirtual 9, 3) := by decide +kernel
theorem dL_law_232 : decode cL_law 232 = .ok (.ifCond .ne 16, 3) := by decide +kernel
theorem dL_law_235 : decode cL_law 235 = .ok (.aload_n 1, 1) := by decide +kernel
theorem dL_law_236 : decode cL_law 236 = .ok (.iconst 1, 1) := by decide +kernel
theorem dL_law_237 : decode cL_law 237 = .ok (.iconst 4, 1) := by decide +kernel
theorem dL_law_238 : decode cL_law 238 = .ok (.invokevirtual 9, 3) := by decide +kernel
theorem dL_law_241 : decode cL_law 241 = .ok (.ifCond .ne 7, 3) := by decide +kernel
theorem dL_law_244 : decode cL_law 244 = .ok (.iconst 1, 1) := by decide +kernel
theorem dL_law_245 : decode cL_law 245 = .ok (.goto 4, 3) := by decide +kernel
theorem dL_law_248 : decode cL_law 248 = .ok (.iconst 0, 1) := by decide +kernel
theorem dL_law_249 : decode cL_law 249 = .ok (.ireturn, 1) := by decide +kernel
