theorem dX5_init_0 : decode cX5_init 0 = .ok (.aload_n 0, 1) := by decide +kernel
theorem dX5_init_1 : decode cX5_init 1 = .ok (.invokespecial 1, 3) := by decide +kernel
theorem dX5_init_4 : decode cX5_init 4 = .ok (.aload_n 0, 1) := by decide +kernel
theorem dX5_init_5 : decode cX5_init 5 = .ok (.bipush 99, 2) := by decide +kernel
theorem dX5_init_7 : decode cX5_init 7 = .ok (.newarray .int, 2) := by decide +kernel
theorem dX5_init_9 : decode cX5_init 9 = .ok (.putfield 7, 3) := by decide +kernel
theorem dX5_init_12 : decode cX5_init 12 = .ok (.aload_n 0, 1) := by decide +kernel
theorem dX5_init_13 : decode cX5_init 13 = .ok (.bipush 99, 2) := by decide +kernel
theorem dX5_init_15 : decode cX5_init 15 = .ok (.newarray .int, 2) := by decide +kernel
theorem dX5_init_17 : decode cX5_init 17 = .ok (.putfield 13, 3) := by decide +kernel
theorem dX5_init_20 : decode cX5_init 20 = .ok (.aload_n 0, 1) := by decide +kernel
theorem dX5_init_21 : decode cX5_init 21 = .ok (.sipush 594, 3) := by decide +kernel
theorem dX5_init_24 : decode cX5_init 24 = .ok (.newarray .int, 2) := by decide +kernel
theorem dX5_init_26 : decode cX5_init 26 = .ok (.putfield 16, 3) := by decide +kernel
theorem dX5_init_29 : decode cX5_init 29 = .ok (.aload_n 0, 1) := by decide +kernel
theorem dX5_init_30 : decode cX5_init 30 = .ok (.sipush 198, 3) := by decide +kernel
theorem dX5_init_33 : decode cX5_init 33 = .ok (.newarray .int, 2) := by decide +kernel
theorem dX5_init_35 : decode cX5_init 35 = .ok (.putfield 19, 3) := by decide +kernel
theorem dX5_init_38 : decode cX5_init 38 = .ok (.aload_n 0, 1) := by decide +kernel
theorem dX5_init_39 : decode cX5_init 39 = .ok (.iconst 2, 1) := by decide +kernel
theorem dX5_init_40 : decode cX5_init 40 = .ok (.newarray .boolean, 2) := by decide +kernel
theorem dX5_init_42 : decode cX5_init 42 = .ok (.putfield 22, 3) := by decide +kernel
theorem dX5_init_45 : decode cX5_init 45 = .ok (.aload_n 0, 1) := by decide +kernel
theorem dX5_init_46 : decode cX5_init 46 = .ok (.iconst 4, 1) := by decide +kernel
theorem dX5_init_47 : decode cX5_init 47 = .ok (.newarray .int, 2) := by decide +kernel
theorem dX5_init_49 : decode cX5_init 49 = .ok (.putfield 26, 3) := by decide +kernel
theorem dX5_init_52 : decode cX5_init 52 = .ok (.aload_n 0, 1) := by decide +kernel
theorem dX5_init_53 : decode cX5_init 53 = .ok (.iconst 3, 1) := by decide +kernel
theorem dX5_init_54 : decode cX5_init 54 = .ok (.newarray .int, 2) := by decide +kernel
theorem dX5_init_56 : decode cX5_init 56 = .ok (.putfield 29, 3) := by decide +kernel
theorem dX5_init_59 : decode cX5_init 59 = .ok (.aload_n 0, 1) := by decide +kernel
theorem dX5_init_60 : decode cX5_init 60 = .ok (.sipush 192, 3) := by decide +kernel
theorem dX5_init_63 : decode cX5_init 63 = .ok (.newarray .int, 2) := by decide +kernel
theorem dX5_init_65 : decode cX5_init 65 = .ok (.putfield 32, 3) := by decide +kernel
theorem dX5_init_68 : decode cX5_init 68 = .ok (.aload_n 0, 1) := by decide +kernel
theorem dX5_init_69 : decode cX5_init 69 = .ok (.bipush 60, 2) := by decide +kernel
theorem dX5_init_71 : decode cX5_init 71 = .ok (.newarray .char, 2) := by decide +kernel
theorem dX5_init_73 : decode cX5_init 73 = .ok (.putfield 35, 3) := by decide +kernel
theorem dX5_init_76 : decode cX5_init 76 = .ok (.aload_n 0, 1) := by decide +kernel
theorem dX5_init_77 : decode cX5_init 77 = .ok (.getfield 7, 3) := by decide +kernel
theorem dX5_init_80 : decode cX5_init 80 = .ok (.iconst 0, 1) := by decide +kernel
theorem dX5_init_81 : decode cX5_init 81 = .ok (.iconst 3, 1) := by decide +kernel
theorem dX5_init_82 : decode cX5_init 82 = .ok (.iastore, 1) := by decide +kernel
theorem dX5_init_83 : decode cX5_init 83 = .ok (.aload_n 0, 1) := by decide +kernel
theorem dX5_init_84 : decode cX5_init 84 = .ok (.getfield 7, 3) := by decide +kernel
theorem dX5_init_87 : decode cX5_init 87 = .ok (.iconst 1, 1) := by decide +kernel
theorem dX5_init_88 : decode cX5_init 88 = .ok (.bipush 15, 2) := by decide +kernel
theorem dX5_init_90 : decode cX5_init 90 = .ok (.iastore, 1) := by decide +kernel
theorem dX5_init_91 : decode cX5_init 91 = .ok (.return_, 1) := by decide +kernel
theorem dX5_in_0 : decode cX5_in 0 = .ok (.iload_n 0, 1) := by decide +kernel
theorem dX5_in_1 : decode cX5_in 1 = .ok (.iload_n 1, 1) := by decide +kernel
theorem dX5_in_2 : decode cX5_in 2 = .ok (.if_icmp .lt 12, 3) := by decide +kernel
theorem dX5_in_5 : decode cX5_in 5 = .ok (.iload_n 0, 1) := by decide +kernel
theorem dX5_in_6 : decode cX5_in 6 = .ok (.iload_n 2, 1) := by decide +kernel
theorem dX5_in_7 : decode cX5_in 7 = .ok (.if_icmp .gt 7, 3) := by decide +kernel
theorem dX5_in_10 : decode cX5_in 10 = .ok (.iconst 1, 1) := by decide +kernel
theorem dX5_in_11 : decode cX5_in 11 = .ok (.goto 4, 3) := by decide +kernel
theorem dX5_in_14 : decode cX5_in 14 = .ok (.iconst 0, 1) := by decide +kernel
theorem dX5_in_15 : decode cX5_in 15 = .ok (.ireturn, 1) := by decide +kernel
theorem dX5_p_0 : decode cX5_p 0 = .ok (.bipush 7, 2) := by decide +kernel
theorem dX5_p_2 : decode cX5_p 2 = .ok (.iconst 5, 1) := by decide +kernel
theorem dX5_p_3 : decode cX5_p 3 = .ok (.iload_n 0, 1) := by decide +kernel
theorem dX5_p_4 : decode cX5_p 4 = .ok (.imul, 1) := by decide +kernel
theorem dX5_p_5 : decode cX5_p 5 = .ok (.iadd, 1) := by decide +kernel
theorem dX5_p_6 : decode cX5_p 6 = .ok (.ireturn, 1) := by decide +kernel
theorem dX5_n_0 : decode cX5_n 0 = .ok (.bipush 51, 2) := by decide +kernel
theorem dX5_n_2 : decode cX5_n 2 = .ok (.bipush 8, 2) := by decide +kernel
theorem dX5_n_4 : decode cX5_n 4 = .ok (.iload_n 0, 1) := by decide +kernel
theorem dX5_n_5 : decode cX5_n 5 = .ok (.imul, 1) := by decide +kernel
theorem dX5_n_6 : decode cX5_n 6 = .ok (.iadd, 1) := by decide +kernel
theorem dX5_n_7 : decode cX5_n 7 = .ok (.ireturn, 1) := by decide +kernel
set_option maxRecDepth 20000 in
theorem ggX5_isPot_X5_in : GoodIn wsX5_isPot wsX5_in := goodIn_r _ [4] (by decide +kernel) (by decide +kernel)
set_option maxRecDepth 20000 in
theorem gX5_isPot_X5_in : GoodIn wsX5_isPot (va_wsS RX5 39 yX5_in wsX5_in) := goodIn_app (goodIn_of _ (by decide +kernel)) ggX5_isPot_X5_in
theorem dX5_isPot_0 : decode cX5_isPot 0 = .ok (.iload_n 0, 1) := by decide +kernel
theorem dX5_isPot_1 : decode cX5_isPot 1 = .ok (.iconst 0, 1) := by decide +kernel
theorem dX5_isPot_2 : decode cX5_isPot 2 = .ok (.bipush 7, 2) := by decide +kernel
theorem dX5_isPot_4 : decode cX5_isPot 4 = .ok (.invokestatic 39, 3) := by decide +kernel
theorem dX5_isPot_7 : decode cX5_isPot 7 = .ok (.ireturn, 1) := by decide +kernel
set_option maxRecDepth 20000 in
theorem ggX5_isPanel_X5_in : GoodIn wsX5_isPanel wsX5_in := goodIn_r _ [4] (by decide +kernel) (by decide +kernel)
set_option maxRecDepth 20000 in
theorem gX5_isPanel_X5_in : GoodIn wsX5_isPanel (va_wsS RX5 39 yX5_in wsX5_in) := goodIn_app (goodIn_of _ (by decide +kernel)) ggX5_isPanel_X5_in
theorem dX5_isPanel_0 : decode cX5_isPanel 0 = .ok (.iload_n 0, 1) := by decide +kernel
theorem dX5_isPanel_1 : decode cX5_isPanel 1 = .ok (.iconst 0, 1) := by decide +kernel
theorem dX5_isPanel_2 : decode cX5_isPanel 2 = .ok (.iconst 5, 1) := by decide +kernel
theorem dX5_isPanel_3 : decode cX5_isPanel 3 = .ok (.invokestatic 39, 3) := by decide +kernel
theorem dX5_isPanel_6 : decode cX5_isPanel 6 = .ok (.ireturn, 1) := by decide +kernel
theorem dX5_hold_0 : decode cX5_hold 0 = .ok (.iconst 0, 1) := by decide +kernel
theorem dX5_hold_1 : decode cX5_hold 1 = .ok (.istore_n 1, 1) := by decide +kernel
theorem dX5_hold_2 : decode cX5_hold 2 = .ok (.iload_n 1, 1) := by decide +kernel
theorem dX5_hold_3 : decode cX5_hold 3 = .ok (.bipush 99, 2) := by decide +kernel
theorem dX5_hold_5 : decode cX5_hold 5 = .ok (.if_icmp .ge 21, 3) := by decide +kernel
theorem dX5_hold_8 : decode cX5_hold 8 = .ok (.aload_n 0, 1) := by decide +kernel
theorem dX5_hold_9 : decode cX5_hold 9 = .ok (.getfield 13, 3) := by decide +kernel
theorem dX5_hold_12 : decode cX5_hold 12 = .ok (.iload_n 1, 1) := by decide +kernel
theorem dX5_hold_13 : decode cX5_hold 13 = .ok (.aload_n 0, 1) := by decide +kernel
theorem dX5_hold_14 : decode cX5_hold 14 = .ok (.getfield 7, 3) := by decide +kernel
theorem dX5_hold_17 : decode cX5_hold 17 = .ok (.iload_n 1, 1) := by decide +kernel
theorem dX5_hold_18 : decode cX5_hold 18 = .ok (.iaload, 1) := by decide +kernel
theorem dX5_hold_19 : decode cX5_hold 19 = .ok (.iastore, 1) := by decide +kernel
theorem dX5_hold_20 : decode cX5_hold 20 = .ok (.iinc 1 1, 3) := by decide +kernel
theorem dX5_hold_23 : decode cX5_hold 23 = .ok (.goto (-21), 3) := by decide +kernel
theorem dX5_hold_26 : decode cX5_hold 26 = .ok (.return_, 1) := by decide +kernel
theorem dX5_recorded_0 : decode cX5_recorded 0 = .ok (.iload_n 1, 1) := by decide +kernel
theorem dX5_recorded_1 : decode cX5_recorded 1 = .ok (.ifCond .lt 96, 3) := by decide +kernel
theorem dX5_recorded_4 : decode cX5_recorded 4 = .ok (.aload_n 0, 1) := by decide +kernel
theorem dX5_recorded_5 : decode cX5_recorded 5 = .ok (.getfield 43, 3) := by decide +kernel
theorem dX5_recorded_8 : decode cX5_recorded 8 = .ok (.bipush 6, 2) := by decide +kernel
theorem dX5_recorded_10 : decode cX5_recorded 10 = .ok (.if_icmp .ne 43, 3) := by decide +kernel
theorem dX5_recorded_13 : decode cX5_recorded 13 = .ok (.iconst 0, 1) := by decide +kernel
theorem dX5_recorded_14 : decode cX5_recorded 14 = .ok (.istore_n 2, 1) := by decide +kernel
theorem dX5_recorded_15 : decode cX5_recorded 15 = .ok (.iload_n 2, 1) := by decide +kernel
theorem dX5_recorded_16 : decode cX5_recorded 16 = .ok (.sipush 495, 3) := by decide +kernel
theorem dX5_recorded_19 : decode cX5_recorded 19 = .ok (.if_icmp .ge 24, 3) := by decide +kernel
theorem dX5_recorded_22 : decode cX5_recorded 22 = .ok (.aload_n 0, 1) := by decide +kernel
theorem dX5_recorded_23 : decode cX5_recorded 23 = .ok (.getfield 16, 3) := by decide +kernel
theorem dX5_recorded_26 : decode cX5_recorded 26 = .ok (.iload_n 2, 1) := by decide +kernel
theorem dX5_recorded_27 : decode cX5_recorded 27 = .ok (.aload_n 0, 1) := by decide +kernel
theorem dX5_recorded_28 : decode cX5_recorded 28 = .ok (.getfield 16, 3) := by decide +kernel
theorem dX5_recorded_31 : decode cX5_recorded 31 = .ok (.bipush 99, 2) := by decide +kernel
theorem dX5_recorded_33 : decode cX5_recorded 33 = .ok (.iload_n 2, 1) := by decide +kernel
theorem dX5_recorded_34 : decode cX5_recorded 34 = .ok (.iadd, 1) := by decide +kernel
theorem dX5_recorded_35 : decode cX5_recorded 35 = .ok (.iaload, 1) := by decide +kernel
theorem dX5_recorded_36 : decode cX5_recorded 36 = .ok (.iastore, 1) := by decide +kernel
theorem dX5_recorded_37 : decode cX5_recorded 37 = .ok (.iinc 2 1, 3) := by decide +kernel
theorem dX5_recorded_40 : decode cX5_recorded 40 = .ok (.goto (-25), 3) := by decide +kernel
theorem dX5_recorded_43 : decode cX5_recorded 43 = .ok (.aload_n 0, 1) := by decide +kernel
theorem dX5_recorded_44 : decode cX5_recorded 44 = .ok (.dup, 1) := by decide +kernel
theorem dX5_recorded_45 : decode cX5_recorded 45 = .ok (.getfield 43, 3) := by decide +kernel
theorem dX5_recorded_48 : decode cX5_recorded 48 = .ok (.iconst 1, 1) := by decide +kernel
theorem dX5_recorded_49 : decode cX5_recorded 49 = .ok (.isub, 1) := by decide +kernel
theorem dX5_recorded_50 : decode cX5_recorded 50 = .ok (.putfield 43, 3) := by decide +kernel
theorem dX5_recorded_53 : decode cX5_recorded 53 = .ok (.iconst 0, 1) := by decide +kernel
theorem dX5_recorded_54 : decode cX5_recorded 54 = .ok (.istore_n 2, 1) := by decide +kernel
theorem dX5_recorded_55 : decode cX5_recorded 55 = .ok (.iload_n 2, 1) := by decide +kernel
theorem dX5_recorded_56 : decode cX5_recorded 56 = .ok (.bipush 99, 2) := by decide +kernel
theorem dX5_recorded_58 : decode cX5_recorded 58 = .ok (.if_icmp .ge 29, 3) := by decide +kernel
theorem dX5_recorded_61 : decode cX5_recorded 61 = .ok (.aload_n 0, 1) := by decide +kernel
theorem dX5_recorded_62 : decode cX5_recorded 62 = .ok (.getfield 16, 3) := by decide +kernel
theorem dX5_recorded_65 : decode cX5_recorded 65 = .ok (.bipush 99, 2) := by decide +kernel
theorem dX5_recorded_67 : decode cX5_recorded 67 = .ok (.aload_n 0, 1) := by decide +kernel
theorem dX5_recorded_68 : decode cX5_recorded 68 = .ok (.getfield 43, 3) := by decide +kernel
theorem dX5_recorded_71 : decode cX5_recorded 71 = .ok (.imul, 1) := by decide +kernel
theorem dX5_recorded_72 : decode cX5_recorded 72 = .ok (.iload_n 2, 1) := by decide +kernel
theorem dX5_recorded_73 : decode cX5_recorded 73 = .ok (.iadd, 1) := by decide +kernel
theorem dX5_recorded_74 : decode cX5_recorded 74 = .ok (.aload_n 0, 1) := by decide +kernel
theorem dX5_recorded_75 : decode cX5_recorded 75 = .ok (.getfield 13, 3) := by decide +kernel
theorem dX5_recorded_78 : decode cX5_recorded 78 = .ok (.iload_n 2, 1) := by decide +kernel
theorem dX5_recorded_79 : decode cX5_recorded 79 = .ok (.iaload, 1) := by decide +kernel
theorem dX5_recorded_80 : decode cX5_recorded 80 = .ok (.iastore, 1) := by decide +kernel
theorem dX5_recorded_81 : decode cX5_recorded 81 = .ok (.iinc 2 1, 3) := by decide +kernel
theorem dX5_recorded_84 : decode cX5_recorded 84 = .ok (.goto (-29), 3) := by decide +kernel
theorem dX5_recorded_87 : decode cX5_recorded 87 = .ok (.aload_n 0, 1) := by decide +kernel
theorem dX5_recorded_88 : decode cX5_recorded 88 = .ok (.dup, 1) := by decide +kernel
theorem dX5_recorded_89 : decode cX5_recorded 89 = .ok (.getfield 43, 3) := by decide +kernel
theorem dX5_recorded_92 : decode cX5_recorded 92 = .ok (.iconst 1, 1) := by decide +kernel
theorem dX5_recorded_93 : decode cX5_recorded 93 = .ok (.iadd, 1) := by decide +kernel
theorem dX5_recorded_94 : decode cX5_recorded 94 = .ok (.putfield 43, 3) := by decide +kernel
theorem dX5_recorded_97 : decode cX5_recorded 97 = .ok (.iload_n 1, 1) := by decide +kernel
theorem dX5_recorded_98 : decode cX5_recorded 98 = .ok (.ireturn, 1) := by decide +kernel
theorem dX5_drops_0 : decode cX5_drops 0 = .ok (.aload_n 0, 1) := by decide +kernel
theorem dX5_drops_1 : decode cX5_drops 1 = .ok (.getfield 7, 3) := by decide +kernel
theorem dX5_drops_4 : decode cX5_drops 4 = .ok (.iload_n 1, 1) := by decide +kernel
theorem dX5_drops_5 : decode cX5_drops 5 = .ok (.iaload, 1) := by decide +kernel
theorem dX5_drops_6 : decode cX5_drops 6 = .ok (.aload_n 0, 1) := by decide +kernel
theorem dX5_drops_7 : decode cX5_drops 7 = .ok (.getfield 7, 3) := by decide +kernel
theorem dX5_drops_10 : decode cX5_drops 10 = .ok (.iload_n 1, 1) := by decide +kernel
theorem dX5_drops_11 : decode cX5_drops 11 = .ok (.iconst 1, 1) := by decide +kernel
theorem dX5_drops_12 : decode cX5_drops 12 = .ok (.iadd, 1) := by decide +kernel
theorem dX5_drops_13 : decode cX5_drops 13 = .ok (.iaload, 1) := by decide +kernel
theorem dX5_drops_14 : decode cX5_drops 14 = .ok (.iadd, 1) := by decide +kernel
theorem dX5_drops_15 : decode cX5_drops 15 = .ok (.aload_n 0, 1) := by decide +kernel
theorem dX5_drops_16 : decode cX5_drops 16 = .ok (.getfield 7, 3) := by decide +kernel
theorem dX5_drops_19 : decode cX5_drops 19 = .ok (.iload_n 1, 1) := by decide +kernel
theorem dX5_drops_20 : decode cX5_drops 20 = .ok (.iconst 2, 1) := by decide +kernel
theorem dX5_drops_21 : decode cX5_drops 21 = .ok (.iadd, 1) := by decide +kernel
theorem dX5_drops_22 : decode cX5_drops 22 = .ok (.iaload, 1) := by decide +kernel
theorem dX5_drops_23 : decode cX5_drops 23 = .ok (.iadd, 1) := by decide +kernel
theorem dX5_drops_24 : decode cX5_drops 24 = .ok (.aload_n 0, 1) := by decide +kernel
theorem dX5_drops_25 : decode cX5_drops 25 = .ok (.getfield 7, 3) := by decide +kernel
theorem dX5_drops_28 : decode cX5_drops 28 = .ok (.iload_n 1, 1) := by decide +kernel
theorem dX5_drops_29 : decode cX5_drops 29 = .ok (.iconst 3, 1) := by decide +kernel
theorem dX5_drops_30 : decode cX5_drops 30 = .ok (.iadd, 1) := by decide +kernel
theorem dX5_drops_31 : decode cX5_drops 31 = .ok (.iaload, 1) := by decide +kernel
theorem dX5_drops_32 : decode cX5_drops 32 = .ok (.iadd, 1) := by decide +kernel
theorem dX5_drops_33 : decode cX5_drops 33 = .ok (.ireturn, 1) := by decide +kernel
set_option maxRecDepth 20000 in
theorem ggX5_strength_X5_drops : GoodIn wsX5_strength wsX5_drops := goodIn_r _ [6, 1, 7, 8, 9, 10, 11, 12, 13, 14, 15, 16, 17, 18, 19] (by decide +kernel) (by decide +kernel)
set_option maxRecDepth 20000 in
theorem gX5_strength_X5_drops : GoodIn wsX5_strength (wsV RX5 47 RX5 yX5_drops wsX5_drops) := goodIn_app (goodIn_of _ (by decide +kernel)) ggX5_strength_X5_drops
theorem dX5_strength_0 : decode cX5_strength 0 = .ok (.bipush 100, 2) := by decide +kernel
theorem dX5_strength_2 : decode cX5_strength 2 = .ok (.aload_n 0, 1) := by decide +kernel
theorem dX5_strength_3 : decode cX5_strength 3 = .ok (.getfield 7, 3) := by decide +kernel
theorem dX5_strength_6 : decode cX5_strength 6 = .ok (.iload_n 1, 1) := by decide +kernel
theorem dX5_strength_7 : decode cX5_strength 7 = .ok (.iload_n 2, 1) := by decide +kernel
theorem dX5_strength_8 : decode cX5_strength 8 = .ok (.iadd, 1) := by decide +kernel
theorem dX5_strength_9 : decode cX5_strength 9 = .ok (.iaload, 1) := by decide +kernel
theorem dX5_strength_10 : decode cX5_strength 10 = .ok (.imul, 1) := by decide +kernel
theorem dX5_strength_11 : decode cX5_strength 11 = .ok (.aload_n 0, 1) := by decide +kernel
theorem dX5_strength_12 : decode cX5_strength 12 = .ok (.iload_n 1, 1) := by decide +kernel
theorem dX5_strength_13 : decode cX5_strength 13 = .ok (.invokevirtual 47, 3) := by decide +kernel
theorem dX5_strength_16 : decode cX5_strength 16 = .ok (.idiv, 1) := by decide +kernel
theorem dX5_strength_17 : decode cX5_strength 17 = .ok (.ireturn, 1) := by decide +kernel
theorem dX5_away_0 : decode cX5_away 0 = .ok (.iload_n 0, 1) := by decide +kernel
theorem dX5_away_1 : decode cX5_away 1 = .ok (.iload_n 1, 1) := by decide +kernel
theorem dX5_away_2 : decode cX5_away 2 = .ok (.if_icmp .le 9, 3) := by decide +kernel
theorem dX5_away_5 : decode cX5_away 5 = .ok (.iload_n 0, 1) := by decide +kernel
theorem dX5_away_6 : decode cX5_away 6 = .ok (.iload_n 1, 1) := by decide +kernel
theorem dX5_away_7 : decode cX5_away 7 = .ok (.isub, 1) := by decide +kernel
theorem dX5_away_8 : decode cX5_away 8 = .ok (.goto 6, 3) := by decide +kernel
theorem dX5_away_11 : decode cX5_away 11 = .ok (.iload_n 1, 1) := by decide +kernel
theorem dX5_away_12 : decode cX5_away 12 = .ok (.iload_n 0, 1) := by decide +kernel
theorem dX5_away_13 : decode cX5_away 13 = .ok (.isub, 1) := by decide +kernel
theorem dX5_away_14 : decode cX5_away 14 = .ok (.ireturn, 1) := by decide +kernel
set_option maxRecDepth 20000 in
theorem ggX5_distance_X5_n : GoodIn wsX5_distance wsX5_n := goodIn_r _ [6] (by decide +kernel) (by decide +kernel)
set_option maxRecDepth 20000 in
theorem gX5_distance_X5_n : GoodIn wsX5_distance (va_wsS RX5 51 yX5_n wsX5_n) := goodIn_app (goodIn_of _ (by decide +kernel)) ggX5_distance_X5_n
set_option maxRecDepth 20000 in
theorem ggX5_distance_X5_away : GoodIn wsX5_distance wsX5_away := goodIn_r _ [9] (by decide +kernel) (by decide +kernel)
set_option maxRecDepth 20000 in
theorem gX5_distance_X5_away : GoodIn wsX5_distance (va_wsS RX5 54 yX5_away wsX5_away) := goodIn_app (goodIn_of _ (by decide +kernel)) ggX5_distance_X5_away
theorem dX5_distance_0 : decode cX5_distance 0 = .ok (.iconst 0, 1) := by decide +kernel
theorem dX5_distance_1 : decode cX5_distance 1 = .ok (.istore_n 2, 1) := by decide +kernel
theorem dX5_distance_2 : decode cX5_distance 2 = .ok (.iconst 0, 1) := by decide +kernel
theorem dX5_distance_3 : decode cX5_distance 3 = .ok (.istore_n 3, 1) := by decide +kernel
theorem dX5_distance_4 : decode cX5_distance 4 = .ok (.iload_n 3, 1) := by decide +kernel
theorem dX5_distance_5 : decode cX5_distance 5 = .ok (.iconst 3, 1) := by decide +kernel
theorem dX5_distance_6 : decode cX5_distance 6 = .ok (.if_icmp .ge 32, 3) := by decide +kernel
theorem dX5_distance_9 : decode cX5_distance 9 = .ok (.iload_n 2, 1) := by decide +kernel
theorem dX5_distance_10 : decode cX5_distance 10 = .ok (.aload_n 0, 1) := by decide +kernel
theorem dX5_distance_11 : decode cX5_distance 11 = .ok (.getfield 29, 3) := by decide +kernel
theorem dX5_distance_14 : decode cX5_distance 14 = .ok (.iload_n 3, 1) := by decide +kernel
theorem dX5_distance_15 : decode cX5_distance 15 = .ok (.iaload, 1) := by decide +kernel
theorem dX5_distance_16 : decode cX5_distance 16 = .ok (.aload_n 0, 1) := by decide +kernel
theorem dX5_distance_17 : decode cX5_distance 17 = .ok (.getfield 7, 3) := by decide +kernel
theorem dX5_distance_20 : decode cX5_distance 20 = .ok (.iload_n 1, 1) := by decide +kernel
theorem dX5_distance_21 : decode cX5_distance 21 = .ok (.invokestatic 51, 3) := by decide +kernel
theorem dX5_distance_24 : decode cX5_distance 24 = .ok (.iload_n 3, 1) := by decide +kernel
theorem dX5_distance_25 : decode cX5_distance 25 = .ok (.iadd, 1) := by decide +kernel
theorem dX5_distance_26 : decode cX5_distance 26 = .ok (.iaload, 1) := by decide +kernel
theorem dX5_distance_27 : decode cX5_distance 27 = .ok (.invokestatic 54, 3) := by decide +kernel
theorem dX5_distance_30 : decode cX5_distance 30 = .ok (.iadd, 1) := by decide +kernel
theorem dX5_distance_31 : decode cX5_distance 31 = .ok (.istore_n 2, 1) := by decide +kernel
theorem dX5_distance_32 : decode cX5_distance 32 = .ok (.iinc 3 1, 3) := by decide +kernel
theorem dX5_distance_35 : decode cX5_distance 35 = .ok (.goto (-31), 3) := by decide +kernel
theorem dX5_distance_38 : decode cX5_distance 38 = .ok (.iload_n 2, 1) := by decide +kernel
theorem dX5_distance_39 : decode cX5_distance 39 = .ok (.ireturn, 1) := by decide +kernel
set_option maxRecDepth 20000 in
theorem ggX5_looksAt_X5_strength : GoodIn wsX5_looksAt wsX5_strength := goodIn_r _ [6, 7, 8, 9, 10, 5, 11, 12, 13, 14, 15, 16, 17, 18, 19, 20, 21, 22, 23, 24] (by decide +kernel) (by decide +kernel)
set_option maxRecDepth 20000 in
theorem gX5_looksAt_X5_strength : GoodIn wsX5_looksAt (wsV RX5 58 RX5 yX5_strength wsX5_strength) := goodIn_app (goodIn_of _ (by decide +kernel)) ggX5_looksAt_X5_strength
theorem dX5_looksAt_0 : decode cX5_looksAt 0 = .ok (.iconst 0, 1) := by decide +kernel
theorem dX5_looksAt_1 : decode cX5_looksAt 1 = .ok (.istore_n 2, 1) := by decide +kernel
theorem dX5_looksAt_2 : decode cX5_looksAt 2 = .ok (.iload_n 2, 1) := by decide +kernel
theorem dX5_looksAt_3 : decode cX5_looksAt 3 = .ok (.iconst 3, 1) := by decide +kernel
theorem dX5_looksAt_4 : decode cX5_looksAt 4 = .ok (.if_icmp .ge 21, 3) := by decide +kernel
theorem dX5_looksAt_7 : decode cX5_looksAt 7 = .ok (.aload_n 0, 1) := by decide +kernel
theorem dX5_looksAt_8 : decode cX5_looksAt 8 = .ok (.getfield 29, 3) := by decide +kernel
theorem dX5_looksAt_11 : decode cX5_looksAt 11 = .ok (.iload_n 2, 1) := by decide +kernel
theorem dX5_looksAt_12 : decode cX5_looksAt 12 = .ok (.aload_n 0, 1) := by decide +kernel
theorem dX5_looksAt_13 : decode cX5_looksAt 13 = .ok (.iload_n 1, 1) := by decide +kernel
theorem dX5_looksAt_14 : decode cX5_looksAt 14 = .ok (.iload_n 2, 1) := by decide +kernel
theorem dX5_looksAt_15 : decode cX5_looksAt 15 = .ok (.invokevirtual 58, 3) := by decide +kernel
theorem dX5_looksAt_18 : decode cX5_looksAt 18 = .ok (.iastore, 1) := by decide +kernel
theorem dX5_looksAt_19 : decode cX5_looksAt 19 = .ok (.iinc 2 1, 3) := by decide +kernel
theorem dX5_looksAt_22 : decode cX5_looksAt 22 = .ok (.goto (-20), 3) := by decide +kernel
theorem dX5_looksAt_25 : decode cX5_looksAt 25 = .ok (.return_, 1) := by decide +kernel
set_option maxRecDepth 20000 in
theorem ggX5_mostLeft_X5_drops : GoodIn wsX5_mostLeft wsX5_drops := goodIn_r _ [6, 1, 7, 8, 9, 10, 11, 12, 13, 14, 15, 16, 17, 18, 19] (by decide +kernel) (by decide +kernel)
set_option maxRecDepth 20000 in
theorem gX5_mostLeft_X5_drops : GoodIn wsX5_mostLeft (wsV RX5 47 RX5 yX5_drops wsX5_drops) := goodIn_app (goodIn_of _ (by decide +kernel)) ggX5_mostLeft_X5_drops
theorem dX5_mostLeft_0 : decode cX5_mostLeft 0 = .ok (.aload_n 0, 1) := by decide +kernel
theorem dX5_mostLeft_1 : decode cX5_mostLeft 1 = .ok (.iload_n 1, 1) := by decide +kernel
theorem dX5_mostLeft_2 : decode cX5_mostLeft 2 = .ok (.invokevirtual 47, 3) := by decide +kernel
theorem dX5_mostLeft_5 : decode cX5_mostLeft 5 = .ok (.istore 4, 2) := by decide +kernel
theorem dX5_mostLeft_7 : decode cX5_mostLeft 7 = .ok (.bipush (-6), 2) := by decide +kernel
theorem dX5_mostLeft_9 : decode cX5_mostLeft 9 = .ok (.istore 5, 2) := by decide +kernel
theorem dX5_mostLeft_11 : decode cX5_mostLeft 11 = .ok (.iconst (-1), 1) := by decide +kernel
theorem dX5_mostLeft_12 : decode cX5_mostLeft 12 = .ok (.istore 6, 2) := by decide +kernel
theorem dX5_mostLeft_14 : decode cX5_mostLeft 14 = .ok (.iconst 0, 1) := by decide +kernel
theorem dX5_mostLeft_15 : decode cX5_mostLeft 15 = .ok (.istore 7, 2) := by decide +kernel
theorem dX5_mostLeft_17 : decode cX5_mostLeft 17 = .ok (.iload 7, 2) := by decide +kernel
theorem dX5_mostLeft_19 : decode cX5_mostLeft 19 = .ok (.iconst 4, 1) := by decide +kernel
theorem dX5_mostLeft_20 : decode cX5_mostLeft 20 = .ok (.if_icmp .ge 76, 3) := by decide +kernel
theorem dX5_mostLeft_23 : decode cX5_mostLeft 23 = .ok (.aload_n 0, 1) := by decide +kernel
theorem dX5_mostLeft_24 : decode cX5_mostLeft 24 = .ok (.getfield 7, 3) := by decide +kernel
theorem dX5_mostLeft_27 : decode cX5_mostLeft 27 = .ok (.iload_n 1, 1) := by decide +kernel
theorem dX5_mostLeft_28 : decode cX5_mostLeft 28 = .ok (.iload 7, 2) := by decide +kernel
theorem dX5_mostLeft_30 : decode cX5_mostLeft 30 = .ok (.iadd, 1) := by decide +kernel
theorem dX5_mostLeft_31 : decode cX5_mostLeft 31 = .ok (.iaload, 1) := by decide +kernel
theorem dX5_mostLeft_32 : decode cX5_mostLeft 32 = .ok (.iload_n 2, 1) := by decide +kernel
theorem dX5_mostLeft_33 : decode cX5_mostLeft 33 = .ok (.imul, 1) := by decide +kernel
theorem dX5_mostLeft_34 : decode cX5_mostLeft 34 = .ok (.iload 4, 2) := by decide +kernel
theorem dX5_mostLeft_36 : decode cX5_mostLeft 36 = .ok (.irem, 1) := by decide +kernel
theorem dX5_mostLeft_37 : decode cX5_mostLeft 37 = .ok (.istore 8, 2) := by decide +kernel
theorem dX5_mostLeft_39 : decode cX5_mostLeft 39 = .ok (.iload_n 3, 1) := by decide +kernel
theorem dX5_mostLeft_40 : decode cX5_mostLeft 40 = .ok (.iload 7, 2) := by decide +kernel
theorem dX5_mostLeft_42 : decode cX5_mostLeft 42 = .ok (.ishr, 1) := by decide +kernel
theorem dX5_mostLeft_43 : decode cX5_mostLeft 43 = .ok (.iconst 1, 1) := by decide +kernel
theorem dX5_mostLeft_44 : decode cX5_mostLeft 44 = .ok (.iand, 1) := by decide +kernel
theorem dX5_mostLeft_45 : decode cX5_mostLeft 45 = .ok (.ifCond .ne 14, 3) := by decide +kernel
theorem dX5_mostLeft_48 : decode cX5_mostLeft 48 = .ok (.iload 8, 2) := by decide +kernel
theorem dX5_mostLeft_50 : decode cX5_mostLeft 50 = .ok (.iload 6, 2) := by decide +kernel
theorem dX5_mostLeft_52 : decode cX5_mostLeft 52 = .ok (.if_icmp .le 7, 3) := by decide +kernel
theorem dX5_mostLeft_55 : decode cX5_mostLeft 55 = .ok (.iconst 1, 1) := by decide +kernel
theorem dX5_mostLeft_56 : decode cX5_mostLeft 56 = .ok (.goto 4, 3) := by decide +kernel
theorem dX5_mostLeft_59 : decode cX5_mostLeft 59 = .ok (.iconst 0, 1) := by decide +kernel
theorem dX5_mostLeft_60 : decode cX5_mostLeft 60 = .ok (.istore 9, 2) := by decide +kernel
theorem dX5_mostLeft_62 : decode cX5_mostLeft 62 = .ok (.iload 9, 2) := by decide +kernel
theorem dX5_mostLeft_64 : decode cX5_mostLeft 64 = .ok (.ifCond .eq 8, 3) := by decide +kernel
theorem dX5_mostLeft_67 : decode cX5_mostLeft 67 = .ok (.iload 7, 2) := by decide +kernel
theorem dX5_mostLeft_69 : decode cX5_mostLeft 69 = .ok (.goto 5, 3) := by decide +kernel
theorem dX5_mostLeft_72 : decode cX5_mostLeft 72 = .ok (.iload 5, 2) := by decide +kernel
theorem dX5_mostLeft_74 : decode cX5_mostLeft 74 = .ok (.istore 5, 2) := by decide +kernel
theorem dX5_mostLeft_76 : decode cX5_mostLeft 76 = .ok (.iload 9, 2) := by decide +kernel
theorem dX5_mostLeft_78 : decode cX5_mostLeft 78 = .ok (.ifCond .eq 8, 3) := by decide +kernel
theorem dX5_mostLeft_81 : decode cX5_mostLeft 81 = .ok (.iload 8, 2) := by decide +kernel
theorem dX5_mostLeft_83 : decode cX5_mostLeft 83 = .ok (.goto 5, 3) := by decide +kernel
theorem dX5_mostLeft_86 : decode cX5_mostLeft 86 = .ok (.iload 6, 2) := by decide +kernel
theorem dX5_mostLeft_88 : decode cX5_mostLeft 88 = .ok (.istore 6, 2) := by decide +kernel
theorem dX5_mostLeft_90 : decode cX5_mostLeft 90 = .ok (.iinc 7 1, 3) := by decide +kernel
theorem dX5_mostLeft_93 : decode cX5_mostLeft 93 = .ok (.goto (-76), 3) := by decide +kernel
theorem dX5_mostLeft_96 : decode cX5_mostLeft 96 = .ok (.iload 5, 2) := by decide +kernel
theorem dX5_mostLeft_98 : decode cX5_mostLeft 98 = .ok (.ireturn, 1) := by decide +kernel
set_option maxRecDepth 20000 in
theorem ggX5_takes_X5_drops : GoodIn wsX5_takes wsX5_drops := goodIn_r _ [7, 2, 12, 13, 14, 15, 16, 17, 18, 19, 20, 21, 22, 23, 24] (by decide +kernel) (by decide +kernel)
set_option maxRecDepth 20000 in
theorem gX5_takes_X5_drops : GoodIn wsX5_takes (wsV RX5 47 RX5 yX5_drops wsX5_drops) := goodIn_app (goodIn_of _ (by decide +kernel)) ggX5_takes_X5_drops
set_option maxRecDepth 20000 in
theorem ggX5_takes_X5_mostLeft : GoodIn wsX5_takes wsX5_mostLeft := goodIn_r _ [11, 2, 3, 4, 5, 6, 7, 12, 13, 14, 15, 16, 17, 18, 19, 20, 21, 22, 23, 24] (by decide +kernel) (by decide +kernel)
set_option maxRecDepth 20000 in
theorem gX5_takes_X5_mostLeft : GoodIn wsX5_takes (wsV RX5 61 RX5 yX5_mostLeft wsX5_mostLeft) := goodIn_app (goodIn_of _ (by decide +kernel)) ggX5_takes_X5_mostLeft
theorem dX5_takes_0 : decode cX5_takes 0 = .ok (.aload_n 0, 1) := by decide +kernel
theorem dX5_takes_1 : decode cX5_takes 1 = .ok (.iload_n 1, 1) := by decide +kernel
theorem dX5_takes_2 : decode cX5_takes 2 = .ok (.invokevirtual 47, 3) := by decide +kernel
theorem dX5_takes_5 : decode cX5_takes 5 = .ok (.istore_n 3, 1) := by decide +kernel
theorem dX5_takes_6 : decode cX5_takes 6 = .ok (.iconst 0, 1) := by decide +kernel
theorem dX5_takes_7 : decode cX5_takes 7 = .ok (.istore 4, 2) := by decide +kernel
theorem dX5_takes_9 : decode cX5_takes 9 = .ok (.iconst 0, 1) := by decide +kernel
theorem dX5_takes_10 : decode cX5_takes 10 = .ok (.istore 5, 2) := by decide +kernel
theorem dX5_takes_12 : decode cX5_takes 12 = .ok (.iconst 0, 1) := by decide +kernel
theorem dX5_takes_13 : decode cX5_takes 13 = .ok (.istore 6, 2) := by decide +kernel
theorem dX5_takes_15 : decode cX5_takes 15 = .ok (.iload 6, 2) := by decide +kernel
theorem dX5_takes_17 : decode cX5_takes 17 = .ok (.iconst 4, 1) := by decide +kernel
theorem dX5_takes_18 : decode cX5_takes 18 = .ok (.if_icmp .ge 41, 3) := by decide +kernel
theorem dX5_takes_21 : decode cX5_takes 21 = .ok (.aload_n 0, 1) := by decide +kernel
theorem dX5_takes_22 : decode cX5_takes 22 = .ok (.getfield 26, 3) := by decide +kernel
theorem dX5_takes_25 : decode cX5_takes 25 = .ok (.iload 6, 2) := by decide +kernel
theorem dX5_takes_27 : decode cX5_takes 27 = .ok (.aload_n 0, 1) := by decide +kernel
theorem dX5_takes_28 : decode cX5_takes 28 = .ok (.getfield 7, 3) := by decide +kernel
theorem dX5_takes_31 : decode cX5_takes 31 = .ok (.iload_n 1, 1) := by decide +kernel
theorem dX5_takes_32 : decode cX5_takes 32 = .ok (.iload 6, 2) := by decide +kernel
theorem dX5_takes_34 : decode cX5_takes 34 = .ok (.iadd, 1) := by decide +kernel
theorem dX5_takes_35 : decode cX5_takes 35 = .ok (.iaload, 1) := by decide +kernel
theorem dX5_takes_36 : decode cX5_takes 36 = .ok (.iload_n 2, 1) := by decide +kernel
theorem dX5_takes_37 : decode cX5_takes 37 = .ok (.imul, 1) := by decide +kernel
theorem dX5_takes_38 : decode cX5_takes 38 = .ok (.iload_n 3, 1) := by decide +kernel
theorem dX5_takes_39 : decode cX5_takes 39 = .ok (.idiv, 1) := by decide +kernel
theorem dX5_takes_40 : decode cX5_takes 40 = .ok (.iastore, 1) := by decide +kernel
theorem dX5_takes_41 : decode cX5_takes 41 = .ok (.iload 4, 2) := by decide +kernel
theorem dX5_takes_43 : decode cX5_takes 43 = .ok (.aload_n 0, 1) := by decide +kernel
theorem dX5_takes_44 : decode cX5_takes 44 = .ok (.getfield 26, 3) := by decide +kernel
theorem dX5_takes_47 : decode cX5_takes 47 = .ok (.iload 6, 2) := by decide +kernel
theorem dX5_takes_49 : decode cX5_takes 49 = .ok (.iaload, 1) := by decide +kernel
theorem dX5_takes_50 : decode cX5_takes 50 = .ok (.iadd, 1) := by decide +kernel
theorem dX5_takes_51 : decode cX5_takes 51 = .ok (.istore 4, 2) := by decide +kernel
theorem dX5_takes_53 : decode cX5_takes 53 = .ok (.iinc 6 1, 3) := by decide +kernel
theorem dX5_takes_56 : decode cX5_takes 56 = .ok (.goto (-41), 3) := by decide +kernel
theorem dX5_takes_59 : decode cX5_takes 59 = .ok (.iload 4, 2) := by decide +kernel
theorem dX5_takes_61 : decode cX5_takes 61 = .ok (.iload_n 2, 1) := by decide +kernel
theorem dX5_takes_62 : decode cX5_takes 62 = .ok (.if_icmp .ge 39, 3) := by decide +kernel
theorem dX5_takes_65 : decode cX5_takes 65 = .ok (.aload_n 0, 1) := by decide +kernel
theorem dX5_takes_66 : decode cX5_takes 66 = .ok (.iload_n 1, 1) := by decide +kernel
theorem dX5_takes_67 : decode cX5_takes 67 = .ok (.iload_n 2, 1) := by decide +kernel
theorem dX5_takes_68 : decode cX5_takes 68 = .ok (.iload 5, 2) := by decide +kernel
theorem dX5_takes_70 : decode cX5_takes 70 = .ok (.invokevirtual 61, 3) := by decide +kernel
theorem dX5_takes_73 : decode cX5_takes 73 = .ok (.istore 6, 2) := by decide +kernel
theorem dX5_takes_75 : decode cX5_takes 75 = .ok (.aload_n 0, 1) := by decide +kernel
theorem dX5_takes_76 : decode cX5_takes 76 = .ok (.getfield 26, 3) := by decide +kernel
theorem dX5_takes_79 : decode cX5_takes 79 = .ok (.iload 6, 2) := by decide +kernel
theorem dX5_takes_81 : decode cX5_takes 81 = .ok (.dup2, 1) := by decide +kernel
theorem dX5_takes_82 : decode cX5_takes 82 = .ok (.iaload, 1) := by decide +kernel
theorem dX5_takes_83 : decode cX5_takes 83 = .ok (.iconst 1, 1) := by decide +kernel
theorem dX5_takes_84 : decode cX5_takes 84 = .ok (.iadd, 1) := by decide +kernel
theorem dX5_takes_85 : decode cX5_takes 85 = .ok (.iastore, 1) := by decide +kernel
theorem dX5_takes_86 : decode cX5_takes 86 = .ok (.iload 5, 2) := by decide +kernel
theorem dX5_takes_88 : decode cX5_takes 88 = .ok (.iconst 1, 1) := by decide +kernel
theorem dX5_takes_89 : decode cX5_takes 89 = .ok (.iload 6, 2) := by decide +kernel
theorem dX5_takes_91 : decode cX5_takes 91 = .ok (.ishl, 1) := by decide +kernel
theorem dX5_takes_92 : decode cX5_takes 92 = .ok (.ior, 1) := by decide +kernel
theorem dX5_takes_93 : decode cX5_takes 93 = .ok (.istore 5, 2) := by decide +kernel
theorem dX5_takes_95 : decode cX5_takes 95 = .ok (.iinc 4 1, 3) := by decide +kernel
theorem dX5_takes_98 : decode cX5_takes 98 = .ok (.goto (-39), 3) := by decide +kernel
theorem dX5_takes_101 : decode cX5_takes 101 = .ok (.iconst 0, 1) := by decide +kernel
theorem dX5_takes_102 : decode cX5_takes 102 = .ok (.istore 6, 2) := by decide +kernel
theorem dX5_takes_104 : decode cX5_takes 104 = .ok (.iload 6, 2) := by decide +kernel
theorem dX5_takes_106 : decode cX5_takes 106 = .ok (.iconst 4, 1) := by decide +kernel
theorem dX5_takes_107 : decode cX5_takes 107 = .ok (.if_icmp .ge 28, 3) := by decide +kernel
theorem dX5_takes_110 : decode cX5_takes 110 = .ok (.aload_n 0, 1) := by decide +kernel
theorem dX5_takes_111 : decode cX5_takes 111 = .ok (.getfield 7, 3) := by decide +kernel
theorem dX5_takes_114 : decode cX5_takes 114 = .ok (.iload_n 1, 1) := by decide +kernel
theorem dX5_takes_115 : decode cX5_takes 115 = .ok (.iload 6, 2) := by decide +kernel
theorem dX5_takes_117 : decode cX5_takes 117 = .ok (.iadd, 1) := by decide +kernel
theorem dX5_takes_118 : decode cX5_takes 118 = .ok (.dup2, 1) := by decide +kernel
theorem dX5_takes_119 : decode cX5_takes 119 = .ok (.iaload, 1) := by decide +kernel
theorem dX5_takes_120 : decode cX5_takes 120 = .ok (.aload_n 0, 1) := by decide +kernel
theorem dX5_takes_121 : decode cX5_takes 121 = .ok (.getfield 26, 3) := by decide +kernel
theorem dX5_takes_124 : decode cX5_takes 124 = .ok (.iload 6, 2) := by decide +kernel
theorem dX5_takes_126 : decode cX5_takes 126 = .ok (.iaload, 1) := by decide +kernel
theorem dX5_takes_127 : decode cX5_takes 127 = .ok (.isub, 1) := by decide +kernel
theorem dX5_takes_128 : decode cX5_takes 128 = .ok (.iastore, 1) := by decide +kernel
theorem dX5_takes_129 : decode cX5_takes 129 = .ok (.iinc 6 1, 3) := by decide +kernel
theorem dX5_takes_132 : decode cX5_takes 132 = .ok (.goto (-28), 3) := by decide +kernel
theorem dX5_takes_135 : decode cX5_takes 135 = .ok (.return_, 1) := by decide +kernel
theorem dX5_puts_0 : decode cX5_puts 0 = .ok (.iconst 0, 1) := by decide +kernel
theorem dX5_puts_1 : decode cX5_puts 1 = .ok (.istore_n 2, 1) := by decide +kernel
theorem dX5_puts_2 : decode cX5_puts 2 = .ok (.iload_n 2, 1) := by decide +kernel
theorem dX5_puts_3 : decode cX5_puts 3 = .ok (.iconst 4, 1) := by decide +kernel
theorem dX5_puts_4 : decode cX5_puts 4 = .ok (.if_icmp .ge 26, 3) := by decide +kernel
theorem dX5_puts_7 : decode cX5_puts 7 = .ok (.aload_n 0, 1) := by decide +kernel
theorem dX5_puts_8 : decode cX5_puts 8 = .ok (.getfield 7, 3) := by decide +kernel
theorem dX5_puts_11 : decode cX5_puts 11 = .ok (.iload_n 1, 1) := by decide +kernel
theorem dX5_puts_12 : decode cX5_puts 12 = .ok (.iload_n 2, 1) := by decide +kernel
theorem dX5_puts_13 : decode cX5_puts 13 = .ok (.iadd, 1) := by decide +kernel
theorem dX5_puts_14 : decode cX5_puts 14 = .ok (.dup2, 1) := by decide +kernel
theorem dX5_puts_15 : decode cX5_puts 15 = .ok (.iaload, 1) := by decide +kernel
theorem dX5_puts_16 : decode cX5_puts 16 = .ok (.aload_n 0, 1) := by decide +kernel
theorem dX5_puts_17 : decode cX5_puts 17 = .ok (.getfield 26, 3) := by decide +kernel
theorem dX5_puts_20 : decode cX5_puts 20 = .ok (.iload_n 2, 1) := by decide +kernel
theorem dX5_puts_21 : decode cX5_puts 21 = .ok (.iaload, 1) := by decide +kernel
theorem dX5_puts_22 : decode cX5_puts 22 = .ok (.iadd, 1) := by decide +kernel
theorem dX5_puts_23 : decode cX5_puts 23 = .ok (.iastore, 1) := by decide +kernel
theorem dX5_puts_24 : decode cX5_puts 24 = .ok (.iinc 2 1, 3) := by decide +kernel
theorem dX5_puts_27 : decode cX5_puts 27 = .ok (.goto (-25), 3) := by decide +kernel
theorem dX5_puts_30 : decode cX5_puts 30 = .ok (.return_, 1) := by decide +kernel
theorem dX5_clears_0 : decode cX5_clears 0 = .ok (.iconst 0, 1) := by decide +kernel
theorem dX5_clears_1 : decode cX5_clears 1 = .ok (.istore_n 2, 1) := by decide +kernel
theorem dX5_clears_2 : decode cX5_clears 2 = .ok (.iload_n 2, 1) := by decide +kernel
theorem dX5_clears_3 : decode cX5_clears 3 = .ok (.iconst 4, 1) := by decide +kernel
theorem dX5_clears_4 : decode cX5_clears 4 = .ok (.if_icmp .ge 18, 3) := by decide +kernel
theorem dX5_clears_7 : decode cX5_clears 7 = .ok (.aload_n 0, 1) := by decide +kernel
theorem dX5_clears_8 : decode cX5_clears 8 = .ok (.getfield 7, 3) := by decide +kernel
theorem dX5_clears_11 : decode cX5_clears 11 = .ok (.iload_n 1, 1) := by decide +kernel
theorem dX5_clears_12 : decode cX5_clears 12 = .ok (.iload_n 2, 1) := by decide +kernel
theorem dX5_clears_13 : decode cX5_clears 13 = .ok (.iadd, 1) := by decide +kernel
theorem dX5_clears_14 : decode cX5_clears 14 = .ok (.iconst 0, 1) := by decide +kernel
theorem dX5_clears_15 : decode cX5_clears 15 = .ok (.iastore, 1) := by decide +kernel
theorem dX5_clears_16 : decode cX5_clears 16 = .ok (.iinc 2 1, 3) := by decide +kernel
theorem dX5_clears_19 : decode cX5_clears 19 = .ok (.goto (-17), 3) := by decide +kernel
theorem dX5_clears_22 : decode cX5_clears 22 = .ok (.return_, 1) := by decide +kernel
set_option maxRecDepth 20000 in
theorem ggX5_isWell_X5_n : GoodIn wsX5_isWell wsX5_n := goodIn_r _ [6] (by decide +kernel) (by decide +kernel)
set_option maxRecDepth 20000 in
theorem gX5_isWell_X5_n : GoodIn wsX5_isWell (va_wsS RX5 51 yX5_n wsX5_n) := goodIn_app (goodIn_of _ (by decide +kernel)) ggX5_isWell_X5_n
set_option maxRecDepth 20000 in
theorem ggX5_isWell_X5_distance : GoodIn wsX5_isWell wsX5_distance := goodIn_r _ [10, 2, 1, 3, 4, 5, 6, 11, 12, 13, 14, 15, 16, 17, 18, 19, 20, 21, 22, 23, 24, 25, 26] (by decide +kernel) (by decide +kernel)
set_option maxRecDepth 20000 in
theorem gX5_isWell_X5_distance : GoodIn wsX5_isWell (wsV RX5 65 RX5 yX5_distance wsX5_distance) := goodIn_app (goodIn_of _ (by decide +kernel)) ggX5_isWell_X5_distance
theorem dX5_isWell_0 : decode cX5_isWell 0 = .ok (.aload_n 0, 1) := by decide +kernel
theorem dX5_isWell_1 : decode cX5_isWell 1 = .ok (.getfield 7, 3) := by decide +kernel
theorem dX5_isWell_4 : decode cX5_isWell 4 = .ok (.iload_n 1, 1) := by decide +kernel
theorem dX5_isWell_5 : decode cX5_isWell 5 = .ok (.invokestatic 51, 3) := by decide +kernel
theorem dX5_isWell_8 : decode cX5_isWell 8 = .ok (.iconst 3, 1) := by decide +kernel
theorem dX5_isWell_9 : decode cX5_isWell 9 = .ok (.iadd, 1) := by decide +kernel
theorem dX5_isWell_10 : decode cX5_isWell 10 = .ok (.iaload, 1) := by decide +kernel
theorem dX5_isWell_11 : decode cX5_isWell 11 = .ok (.ifCond .ne 5, 3) := by decide +kernel
theorem dX5_isWell_14 : decode cX5_isWell 14 = .ok (.iconst 0, 1) := by decide +kernel
theorem dX5_isWell_15 : decode cX5_isWell 15 = .ok (.ireturn, 1) := by decide +kernel
theorem dX5_isWell_16 : decode cX5_isWell 16 = .ok (.iconst 0, 1) := by decide +kernel
theorem dX5_isWell_17 : decode cX5_isWell 17 = .ok (.istore_n 2, 1) := by decide +kernel
theorem dX5_isWell_18 : decode cX5_isWell 18 = .ok (.iload_n 2, 1) := by decide +kernel
theorem dX5_isWell_19 : decode cX5_isWell 19 = .ok (.iconst 3, 1) := by decide +kernel
theorem dX5_isWell_20 : decode cX5_isWell 20 = .ok (.if_icmp .ge 28, 3) := by decide +kernel
theorem dX5_isWell_23 : decode cX5_isWell 23 = .ok (.aload_n 0, 1) := by decide +kernel
theorem dX5_isWell_24 : decode cX5_isWell 24 = .ok (.getfield 29, 3) := by decide +kernel
theorem dX5_isWell_27 : decode cX5_isWell 27 = .ok (.iload_n 2, 1) := by decide +kernel
theorem dX5_isWell_28 : decode cX5_isWell 28 = .ok (.aload_n 0, 1) := by decide +kernel
theorem dX5_isWell_29 : decode cX5_isWell 29 = .ok (.getfield 7, 3) := by decide +kernel
theorem dX5_isWell_32 : decode cX5_isWell 32 = .ok (.iload_n 1, 1) := by decide +kernel
theorem dX5_isWell_33 : decode cX5_isWell 33 = .ok (.invokestatic 51, 3) := by decide +kernel
theorem dX5_isWell_36 : decode cX5_isWell 36 = .ok (.iconst 4, 1) := by decide +kernel
theorem dX5_isWell_37 : decode cX5_isWell 37 = .ok (.iadd, 1) := by decide +kernel
theorem dX5_isWell_38 : decode cX5_isWell 38 = .ok (.iload_n 2, 1) := by decide +kernel
theorem dX5_isWell_39 : decode cX5_isWell 39 = .ok (.iadd, 1) := by decide +kernel
theorem dX5_isWell_40 : decode cX5_isWell 40 = .ok (.iaload, 1) := by decide +kernel
theorem dX5_isWell_41 : decode cX5_isWell 41 = .ok (.iastore, 1) := by decide +kernel
theorem dX5_isWell_42 : decode cX5_isWell 42 = .ok (.iinc 2 1, 3) := by decide +kernel
theorem dX5_isWell_45 : decode cX5_isWell 45 = .ok (.goto (-27), 3) := by decide +kernel
theorem dX5_isWell_48 : decode cX5_isWell 48 = .ok (.aload_n 0, 1) := by decide +kernel
theorem dX5_isWell_49 : decode cX5_isWell 49 = .ok (.iload_n 1, 1) := by decide +kernel
theorem dX5_isWell_50 : decode cX5_isWell 50 = .ok (.invokevirtual 65, 3) := by decide +kernel
theorem dX5_isWell_53 : decode cX5_isWell 53 = .ok (.aload_n 0, 1) := by decide +kernel
theorem dX5_isWell_54 : decode cX5_isWell 54 = .ok (.getfield 7, 3) := by decide +kernel
theorem dX5_isWell_57 : decode cX5_isWell 57 = .ok (.iconst 1, 1) := by decide +kernel
theorem dX5_isWell_58 : decode cX5_isWell 58 = .ok (.iaload, 1) := by decide +kernel
theorem dX5_isWell_59 : decode cX5_isWell 59 = .ok (.if_icmp .gt 7, 3) := by decide +kernel
theorem dX5_isWell_62 : decode cX5_isWell 62 = .ok (.iconst 1, 1) := by decide +kernel
theorem dX5_isWell_63 : decode cX5_isWell 63 = .ok (.goto 4, 3) := by decide +kernel
theorem dX5_isWell_66 : decode cX5_isWell 66 = .ok (.iconst 0, 1) := by decide +kernel
theorem dX5_isWell_67 : decode cX5_isWell 67 = .ok (.ireturn, 1) := by decide +kernel
set_option maxRecDepth 20000 in
theorem ggX5_well_X5_isWell : GoodIn wsX5_well wsX5_isWell := goodIn_r _ [5, 6, 7, 8, 9, 4, 10, 11, 12, 13, 14, 15, 16, 17, 18, 19, 20, 21, 22, 23, 24, 25, 26, 27, 28, 29, 30] (by decide +kernel) (by decide +kernel)
set_option maxRecDepth 20000 in
theorem gX5_well_X5_isWell : GoodIn wsX5_well (wsV RX5 68 RX5 yX5_isWell wsX5_isWell) := goodIn_app (goodIn_of _ (by decide +kernel)) ggX5_well_X5_isWell
theorem dX5_well_0 : decode cX5_well 0 = .ok (.iconst 0, 1) := by decide +kernel
theorem dX5_well_1 : decode cX5_well 1 = .ok (.istore_n 1, 1) := by decide +kernel
theorem dX5_well_2 : decode cX5_well 2 = .ok (.iconst 0, 1) := by decide +kernel
theorem dX5_well_3 : decode cX5_well 3 = .ok (.istore_n 2, 1) := by decide +kernel
theorem dX5_well_4 : decode cX5_well 4 = .ok (.iload_n 2, 1) := by decide +kernel
theorem dX5_well_5 : decode cX5_well 5 = .ok (.bipush 6, 2) := by decide +kernel
theorem dX5_well_7 : decode cX5_well 7 = .ok (.if_icmp .ge 25, 3) := by decide +kernel
theorem dX5_well_10 : decode cX5_well 10 = .ok (.iload_n 1, 1) := by decide +kernel
theorem dX5_well_11 : decode cX5_well 11 = .ok (.aload_n 0, 1) := by decide +kernel
theorem dX5_well_12 : decode cX5_well 12 = .ok (.iload_n 2, 1) := by decide +kernel
theorem dX5_well_13 : decode cX5_well 13 = .ok (.invokevirtual 68, 3) := by decide +kernel
theorem dX5_well_16 : decode cX5_well 16 = .ok (.ifCond .eq 7, 3) := by decide +kernel
theorem dX5_well_19 : decode cX5_well 19 = .ok (.iconst 1, 1) := by decide +kernel
theorem dX5_well_20 : decode cX5_well 20 = .ok (.goto 4, 3) := by decide +kernel
theorem dX5_well_23 : decode cX5_well 23 = .ok (.iconst 0, 1) := by decide +kernel
theorem dX5_well_24 : decode cX5_well 24 = .ok (.iadd, 1) := by decide +kernel
theorem dX5_well_25 : decode cX5_well 25 = .ok (.istore_n 1, 1) := by decide +kernel
theorem dX5_well_26 : decode cX5_well 26 = .ok (.iinc 2 1, 3) := by decide +kernel
theorem dX5_well_29 : decode cX5_well 29 = .ok (.goto (-25), 3) := by decide +kernel
theorem dX5_well_32 : decode cX5_well 32 = .ok (.iload_n 1, 1) := by decide +kernel
theorem dX5_well_33 : decode cX5_well 33 = .ok (.ireturn, 1) := by decide +kernel
set_option maxRecDepth 20000 in
theorem ggX5_inPots_X5_p : GoodIn wsX5_inPots wsX5_p := goodIn_r _ [4] (by decide +kernel) (by decide +kernel)
set_option maxRecDepth 20000 in
theorem gX5_inPots_X5_p : GoodIn wsX5_inPots (va_wsS RX5 72 yX5_p wsX5_p) := goodIn_app (goodIn_of _ (by decide +kernel)) ggX5_inPots_X5_p
set_option maxRecDepth 20000 in
theorem ggX5_inPots_X5_drops : GoodIn wsX5_inPots wsX5_drops := goodIn_r _ [8, 9, 10, 11, 12, 13, 14, 15, 16, 17, 18, 19, 20, 21, 22] (by decide +kernel) (by decide +kernel)
set_option maxRecDepth 20000 in
theorem gX5_inPots_X5_drops : GoodIn wsX5_inPots (wsV RX5 47 RX5 yX5_drops wsX5_drops) := goodIn_app (goodIn_of _ (by decide +kernel)) ggX5_inPots_X5_drops
theorem dX5_inPots_0 : decode cX5_inPots 0 = .ok (.iconst 0, 1) := by decide +kernel
theorem dX5_inPots_1 : decode cX5_inPots 1 = .ok (.istore_n 1, 1) := by decide +kernel
theorem dX5_inPots_2 : decode cX5_inPots 2 = .ok (.iconst 0, 1) := by decide +kernel
theorem dX5_inPots_3 : decode cX5_inPots 3 = .ok (.istore_n 2, 1) := by decide +kernel
theorem dX5_inPots_4 : decode cX5_inPots 4 = .ok (.iload_n 2, 1) := by decide +kernel
theorem dX5_inPots_5 : decode cX5_inPots 5 = .ok (.bipush 8, 2) := by decide +kernel
theorem dX5_inPots_7 : decode cX5_inPots 7 = .ok (.if_icmp .ge 20, 3) := by decide +kernel
theorem dX5_inPots_10 : decode cX5_inPots 10 = .ok (.iload_n 1, 1) := by decide +kernel
theorem dX5_inPots_11 : decode cX5_inPots 11 = .ok (.aload_n 0, 1) := by decide +kernel
theorem dX5_inPots_12 : decode cX5_inPots 12 = .ok (.iload_n 2, 1) := by decide +kernel
theorem dX5_inPots_13 : decode cX5_inPots 13 = .ok (.invokestatic 72, 3) := by decide +kernel
theorem dX5_inPots_16 : decode cX5_inPots 16 = .ok (.invokevirtual 47, 3) := by decide +kernel
theorem dX5_inPots_19 : decode cX5_inPots 19 = .ok (.iadd, 1) := by decide +kernel
theorem dX5_inPots_20 : decode cX5_inPots 20 = .ok (.istore_n 1, 1) := by decide +kernel
theorem dX5_inPots_21 : decode cX5_inPots 21 = .ok (.iinc 2 1, 3) := by decide +kernel
theorem dX5_inPots_24 : decode cX5_inPots 24 = .ok (.goto (-20), 3) := by decide +kernel
theorem dX5_inPots_27 : decode cX5_inPots 27 = .ok (.iload_n 1, 1) := by decide +kernel
theorem dX5_inPots_28 : decode cX5_inPots 28 = .ok (.ireturn, 1) := by decide +kernel
set_option maxRecDepth 20000 in
theorem ggX5_fills_X5_isPot : GoodIn wsX5_fills wsX5_isPot := goodIn_r _ [5, 6, 7, 4, 8] (by decide +kernel) (by decide +kernel)
set_option maxRecDepth 20000 in
theorem gX5_fills_X5_isPot : GoodIn wsX5_fills (va_wsS RX5 75 yX5_isPot wsX5_isPot) := goodIn_app (goodIn_of _ (by decide +kernel)) ggX5_fills_X5_isPot
set_option maxRecDepth 20000 in
theorem ggX5_fills_X5_in : GoodIn wsX5_fills wsX5_in := goodIn_r _ [8] (by decide +kernel) (by decide +kernel)
set_option maxRecDepth 20000 in
theorem gX5_fills_X5_in : GoodIn wsX5_fills (va_wsS RX5 39 yX5_in wsX5_in) := goodIn_app (goodIn_of _ (by decide +kernel)) ggX5_fills_X5_in
set_option maxRecDepth 20000 in
theorem ggX5_fills_X5_p : GoodIn wsX5_fills wsX5_p := goodIn_r _ [11] (by decide +kernel) (by decide +kernel)
set_option maxRecDepth 20000 in
theorem gX5_fills_X5_p : GoodIn wsX5_fills (va_wsS RX5 72 yX5_p wsX5_p) := goodIn_app (goodIn_of _ (by decide +kernel)) ggX5_fills_X5_p
set_option maxRecDepth 20000 in
theorem ggX5_fills_X5_drops : GoodIn wsX5_fills wsX5_drops := goodIn_r _ [15, 1, 16, 17, 18, 19, 20, 21, 22, 23, 24, 25, 26, 27, 28] (by decide +kernel) (by decide +kernel)
set_option maxRecDepth 20000 in
theorem gX5_fills_X5_drops : GoodIn wsX5_fills (wsV RX5 47 RX5 yX5_drops wsX5_drops) := goodIn_app (goodIn_of _ (by decide +kernel)) ggX5_fills_X5_drops
theorem dX5_fills_0 : decode cX5_fills 0 = .ok (.iload_n 1, 1) := by decide +kernel
theorem dX5_fills_1 : decode cX5_fills 1 = .ok (.invokestatic 75, 3) := by decide +kernel
theorem dX5_fills_4 : decode cX5_fills 4 = .ok (.ifCond .eq 12, 3) := by decide +kernel
theorem dX5_fills_7 : decode cX5_fills 7 = .ok (.iload_n 2, 1) := by decide +kernel
theorem dX5_fills_8 : decode cX5_fills 8 = .ok (.iconst 0, 1) := by decide +kernel
theorem dX5_fills_9 : decode cX5_fills 9 = .ok (.iconst 3, 1) := by decide +kernel
theorem dX5_fills_10 : decode cX5_fills 10 = .ok (.invokestatic 39, 3) := by decide +kernel
theorem dX5_fills_13 : decode cX5_fills 13 = .ok (.ifCond .ne 5, 3) := by decide +kernel
theorem dX5_fills_16 : decode cX5_fills 16 = .ok (.iconst (-1), 1) := by decide +kernel
theorem dX5_fills_17 : decode cX5_fills 17 = .ok (.ireturn, 1) := by decide +kernel
theorem dX5_fills_18 : decode cX5_fills 18 = .ok (.iload_n 3, 1) := by decide +kernel
theorem dX5_fills_19 : decode cX5_fills 19 = .ok (.iconst 1, 1) := by decide +kernel
theorem dX5_fills_20 : decode cX5_fills 20 = .ok (.bipush 81, 2) := by decide +kernel
theorem dX5_fills_22 : decode cX5_fills 22 = .ok (.invokestatic 39, 3) := by decide +kernel
theorem dX5_fills_25 : decode cX5_fills 25 = .ok (.ifCond .ne 6, 3) := by decide +kernel
theorem dX5_fills_28 : decode cX5_fills 28 = .ok (.bipush (-2), 2) := by decide +kernel
theorem dX5_fills_30 : decode cX5_fills 30 = .ok (.ireturn, 1) := by decide +kernel
theorem dX5_fills_31 : decode cX5_fills 31 = .ok (.aload_n 0, 1) := by decide +kernel
theorem dX5_fills_32 : decode cX5_fills 32 = .ok (.iload_n 1, 1) := by decide +kernel
theorem dX5_fills_33 : decode cX5_fills 33 = .ok (.invokestatic 72, 3) := by decide +kernel
theorem dX5_fills_36 : decode cX5_fills 36 = .ok (.invokevirtual 47, 3) := by decide +kernel
theorem dX5_fills_39 : decode cX5_fills 39 = .ok (.iload_n 3, 1) := by decide +kernel
theorem dX5_fills_40 : decode cX5_fills 40 = .ok (.iadd, 1) := by decide +kernel
theorem dX5_fills_41 : decode cX5_fills 41 = .ok (.bipush 81, 2) := by decide +kernel
theorem dX5_fills_43 : decode cX5_fills 43 = .ok (.if_icmp .le 6, 3) := by decide +kernel
theorem dX5_fills_46 : decode cX5_fills 46 = .ok (.bipush (-4), 2) := by decide +kernel
theorem dX5_fills_48 : decode cX5_fills 48 = .ok (.ireturn, 1) := by decide +kernel
theorem dX5_fills_49 : decode cX5_fills 49 = .ok (.aload_n 0, 1) := by decide +kernel
theorem dX5_fills_50 : decode cX5_fills 50 = .ok (.getfield 7, 3) := by decide +kernel
theorem dX5_fills_53 : decode cX5_fills 53 = .ok (.iload_n 1, 1) := by decide +kernel
theorem dX5_fills_54 : decode cX5_fills 54 = .ok (.invokestatic 72, 3) := by decide +kernel
theorem dX5_fills_57 : decode cX5_fills 57 = .ok (.iload_n 2, 1) := by decide +kernel
theorem dX5_fills_58 : decode cX5_fills 58 = .ok (.iadd, 1) := by decide +kernel
theorem dX5_fills_59 : decode cX5_fills 59 = .ok (.dup2, 1) := by decide +kernel
theorem dX5_fills_60 : decode cX5_fills 60 = .ok (.iaload, 1) := by decide +kernel
theorem dX5_fills_61 : decode cX5_fills 61 = .ok (.iload_n 3, 1) := by decide +kernel
theorem dX5_fills_62 : decode cX5_fills 62 = .ok (.iadd, 1) := by decide +kernel
theorem dX5_fills_63 : decode cX5_fills 63 = .ok (.iastore, 1) := by decide +kernel
theorem dX5_fills_64 : decode cX5_fills 64 = .ok (.aload_n 0, 1) := by decide +kernel
theorem dX5_fills_65 : decode cX5_fills 65 = .ok (.getfield 7, 3) := by decide +kernel
theorem dX5_fills_68 : decode cX5_fills 68 = .ok (.iconst 2, 1) := by decide +kernel
theorem dX5_fills_69 : decode cX5_fills 69 = .ok (.dup2, 1) := by decide +kernel
theorem dX5_fills_70 : decode cX5_fills 70 = .ok (.iaload, 1) := by decide +kernel
theorem dX5_fills_71 : decode cX5_fills 71 = .ok (.iload_n 3, 1) := by decide +kernel
theorem dX5_fills_72 : decode cX5_fills 72 = .ok (.iadd, 1) := by decide +kernel
theorem dX5_fills_73 : decode cX5_fills 73 = .ok (.iastore, 1) := by decide +kernel
theorem dX5_fills_74 : decode cX5_fills 74 = .ok (.aload_n 0, 1) := by decide +kernel
theorem dX5_fills_75 : decode cX5_fills 75 = .ok (.iload_n 1, 1) := by decide +kernel
theorem dX5_fills_76 : decode cX5_fills 76 = .ok (.invokestatic 72, 3) := by decide +kernel
theorem dX5_fills_79 : decode cX5_fills 79 = .ok (.invokevirtual 47, 3) := by decide +kernel
theorem dX5_fills_82 : decode cX5_fills 82 = .ok (.ireturn, 1) := by decide +kernel
set_option maxRecDepth 20000 in
theorem ggX5_thins_X5_isPot : GoodIn wsX5_thins wsX5_isPot := goodIn_r _ [5, 6, 7, 4, 8] (by decide +kernel) (by decide +kernel)
set_option maxRecDepth 20000 in
theorem gX5_thins_X5_isPot : GoodIn wsX5_thins (va_wsS RX5 75 yX5_isPot wsX5_isPot) := goodIn_app (goodIn_of _ (by decide +kernel)) ggX5_thins_X5_isPot
set_option maxRecDepth 20000 in
theorem ggX5_thins_X5_p : GoodIn wsX5_thins wsX5_p := goodIn_r _ [11] (by decide +kernel) (by decide +kernel)
set_option maxRecDepth 20000 in
theorem gX5_thins_X5_p : GoodIn wsX5_thins (va_wsS RX5 72 yX5_p wsX5_p) := goodIn_app (goodIn_of _ (by decide +kernel)) ggX5_thins_X5_p
set_option maxRecDepth 20000 in
theorem ggX5_thins_X5_drops : GoodIn wsX5_thins wsX5_drops := goodIn_r _ [15, 1, 16, 17, 18, 19, 20, 21, 22, 23, 24, 25, 26, 27, 28] (by decide +kernel) (by decide +kernel)
set_option maxRecDepth 20000 in
theorem gX5_thins_X5_drops : GoodIn wsX5_thins (wsV RX5 47 RX5 yX5_drops wsX5_drops) := goodIn_app (goodIn_of _ (by decide +kernel)) ggX5_thins_X5_drops
theorem dX5_thins_0 : decode cX5_thins 0 = .ok (.iload_n 1, 1) := by decide +kernel
theorem dX5_thins_1 : decode cX5_thins 1 = .ok (.invokestatic 75, 3) := by decide +kernel
theorem dX5_thins_4 : decode cX5_thins 4 = .ok (.ifCond .ne 5, 3) := by decide +kernel
theorem dX5_thins_7 : decode cX5_thins 7 = .ok (.iconst (-1), 1) := by decide +kernel
theorem dX5_thins_8 : decode cX5_thins 8 = .ok (.ireturn, 1) := by decide +kernel
theorem dX5_thins_9 : decode cX5_thins 9 = .ok (.aload_n 0, 1) := by decide +kernel
theorem dX5_thins_10 : decode cX5_thins 10 = .ok (.iload_n 1, 1) := by decide +kernel
theorem dX5_thins_11 : decode cX5_thins 11 = .ok (.invokestatic 72, 3) := by decide +kernel
theorem dX5_thins_14 : decode cX5_thins 14 = .ok (.invokevirtual 47, 3) := by decide +kernel
theorem dX5_thins_17 : decode cX5_thins 17 = .ok (.istore_n 2, 1) := by decide +kernel
theorem dX5_thins_18 : decode cX5_thins 18 = .ok (.iload_n 2, 1) := by decide +kernel
theorem dX5_thins_19 : decode cX5_thins 19 = .ok (.ifCond .ne 6, 3) := by decide +kernel
theorem dX5_thins_22 : decode cX5_thins 22 = .ok (.bipush (-5), 2) := by decide +kernel
theorem dX5_thins_24 : decode cX5_thins 24 = .ok (.ireturn, 1) := by decide +kernel
theorem dX5_thins_25 : decode cX5_thins 25 = .ok (.iconst 3, 1) := by decide +kernel
theorem dX5_thins_26 : decode cX5_thins 26 = .ok (.iload_n 2, 1) := by decide +kernel
theorem dX5_thins_27 : decode cX5_thins 27 = .ok (.imul, 1) := by decide +kernel
theorem dX5_thins_28 : decode cX5_thins 28 = .ok (.bipush 81, 2) := by decide +kernel
theorem dX5_thins_30 : decode cX5_thins 30 = .ok (.if_icmp .le 6, 3) := by decide +kernel
theorem dX5_thins_33 : decode cX5_thins 33 = .ok (.bipush (-4), 2) := by decide +kernel
theorem dX5_thins_35 : decode cX5_thins 35 = .ok (.ireturn, 1) := by decide +kernel
theorem dX5_thins_36 : decode cX5_thins 36 = .ok (.aload_n 0, 1) := by decide +kernel
theorem dX5_thins_37 : decode cX5_thins 37 = .ok (.getfield 7, 3) := by decide +kernel
theorem dX5_thins_40 : decode cX5_thins 40 = .ok (.iload_n 1, 1) := by decide +kernel
theorem dX5_thins_41 : decode cX5_thins 41 = .ok (.invokestatic 72, 3) := by decide +kernel
theorem dX5_thins_44 : decode cX5_thins 44 = .ok (.iconst 3, 1) := by decide +kernel
theorem dX5_thins_45 : decode cX5_thins 45 = .ok (.iadd, 1) := by decide +kernel
theorem dX5_thins_46 : decode cX5_thins 46 = .ok (.dup2, 1) := by decide +kernel
theorem dX5_thins_47 : decode cX5_thins 47 = .ok (.iaload, 1) := by decide +kernel
theorem dX5_thins_48 : decode cX5_thins 48 = .ok (.iconst 2, 1) := by decide +kernel
theorem dX5_thins_49 : decode cX5_thins 49 = .ok (.iload_n 2, 1) := by decide +kernel
theorem dX5_thins_50 : decode cX5_thins 50 = .ok (.imul, 1) := by decide +kernel
theorem dX5_thins_51 : decode cX5_thins 51 = .ok (.iadd, 1) := by decide +kernel
theorem dX5_thins_52 : decode cX5_thins 52 = .ok (.iastore, 1) := by decide +kernel
theorem dX5_thins_53 : decode cX5_thins 53 = .ok (.aload_n 0, 1) := by decide +kernel
theorem dX5_thins_54 : decode cX5_thins 54 = .ok (.getfield 7, 3) := by decide +kernel
theorem dX5_thins_57 : decode cX5_thins 57 = .ok (.iconst 2, 1) := by decide +kernel
theorem dX5_thins_58 : decode cX5_thins 58 = .ok (.dup2, 1) := by decide +kernel
theorem dX5_thins_59 : decode cX5_thins 59 = .ok (.iaload, 1) := by decide +kernel
theorem dX5_thins_60 : decode cX5_thins 60 = .ok (.iconst 2, 1) := by decide +kernel
theorem dX5_thins_61 : decode cX5_thins 61 = .ok (.iload_n 2, 1) := by decide +kernel
theorem dX5_thins_62 : decode cX5_thins 62 = .ok (.imul, 1) := by decide +kernel
theorem dX5_thins_63 : decode cX5_thins 63 = .ok (.iadd, 1) := by decide +kernel
theorem dX5_thins_64 : decode cX5_thins 64 = .ok (.iastore, 1) := by decide +kernel
theorem dX5_thins_65 : decode cX5_thins 65 = .ok (.aload_n 0, 1) := by decide +kernel
theorem dX5_thins_66 : decode cX5_thins 66 = .ok (.getfield 7, 3) := by decide +kernel
theorem dX5_thins_69 : decode cX5_thins 69 = .ok (.iload_n 1, 1) := by decide +kernel
theorem dX5_thins_70 : decode cX5_thins 70 = .ok (.invokestatic 72, 3) := by decide +kernel
theorem dX5_thins_73 : decode cX5_thins 73 = .ok (.iconst 4, 1) := by decide +kernel
theorem dX5_thins_74 : decode cX5_thins 74 = .ok (.iadd, 1) := by decide +kernel
theorem dX5_thins_75 : decode cX5_thins 75 = .ok (.dup2, 1) := by decide +kernel
theorem dX5_thins_76 : decode cX5_thins 76 = .ok (.iaload, 1) := by decide +kernel
theorem dX5_thins_77 : decode cX5_thins 77 = .ok (.iconst 1, 1) := by decide +kernel
theorem dX5_thins_78 : decode cX5_thins 78 = .ok (.iadd, 1) := by decide +kernel
theorem dX5_thins_79 : decode cX5_thins 79 = .ok (.iastore, 1) := by decide +kernel
theorem dX5_thins_80 : decode cX5_thins 80 = .ok (.iconst 3, 1) := by decide +kernel
theorem dX5_thins_81 : decode cX5_thins 81 = .ok (.iload_n 2, 1) := by decide +kernel
theorem dX5_thins_82 : decode cX5_thins 82 = .ok (.imul, 1) := by decide +kernel
theorem dX5_thins_83 : decode cX5_thins 83 = .ok (.ireturn, 1) := by decide +kernel
set_option maxRecDepth 20000 in
theorem ggX5_pours_X5_isPot : GoodIn wsX5_pours wsX5_isPot := goodIn_r _ [4, 5, 6, 3, 7] (by decide +kernel) (by decide +kernel)
set_option maxRecDepth 20000 in
theorem gX5_pours_X5_isPot : GoodIn wsX5_pours (va_wsS RX5 75 yX5_isPot wsX5_isPot) := goodIn_app (goodIn_of _ (by decide +kernel)) ggX5_pours_X5_isPot
set_option maxRecDepth 20000 in
theorem ggX5_pours_X5_in : GoodIn wsX5_pours wsX5_in := goodIn_r _ [7] (by decide +kernel) (by decide +kernel)
set_option maxRecDepth 20000 in
theorem gX5_pours_X5_in : GoodIn wsX5_pours (va_wsS RX5 39 yX5_in wsX5_in) := goodIn_app (goodIn_of _ (by decide +kernel)) ggX5_pours_X5_in
set_option maxRecDepth 20000 in
theorem ggX5_pours_X5_p : GoodIn wsX5_pours wsX5_p := goodIn_r _ [10] (by decide +kernel) (by decide +kernel)
set_option maxRecDepth 20000 in
theorem gX5_pours_X5_p : GoodIn wsX5_pours (va_wsS RX5 72 yX5_p wsX5_p) := goodIn_app (goodIn_of _ (by decide +kernel)) ggX5_pours_X5_p
set_option maxRecDepth 20000 in
theorem ggX5_pours_X5_drops : GoodIn wsX5_pours wsX5_drops := goodIn_r _ [14, 15, 29, 30, 31, 32, 33, 34, 35, 36, 37, 38, 39, 40, 41] (by decide +kernel) (by decide +kernel)
set_option maxRecDepth 20000 in
theorem gX5_pours_X5_drops : GoodIn wsX5_pours (wsV RX5 47 RX5 yX5_drops wsX5_drops) := goodIn_app (goodIn_of _ (by decide +kernel)) ggX5_pours_X5_drops
set_option maxRecDepth 20000 in
theorem ggX5_pours_X5_takes : GoodIn wsX5_pours wsX5_takes := goodIn_r _ [19, 20, 15, 11, 12, 13, 3, 14, 21, 22, 23, 24, 29, 30, 31, 32, 33, 34, 35, 36, 37, 38, 39, 40, 41] (by decide +kernel) (by decide +kernel)
set_option maxRecDepth 20000 in
theorem gX5_pours_X5_takes : GoodIn wsX5_pours (wsV RX5 78 RX5 yX5_takes wsX5_takes) := goodIn_app (goodIn_of _ (by decide +kernel)) ggX5_pours_X5_takes
set_option maxRecDepth 20000 in
theorem ggX5_pours_X5_puts : GoodIn wsX5_pours wsX5_puts := goodIn_r _ [28, 15, 20, 29, 30, 31, 32, 33, 34, 35, 36, 37, 38, 39, 40, 41] (by decide +kernel) (by decide +kernel)
set_option maxRecDepth 20000 in
theorem gX5_pours_X5_puts : GoodIn wsX5_pours (wsV RX5 82 RX5 yX5_puts wsX5_puts) := goodIn_app (goodIn_of _ (by decide +kernel)) ggX5_pours_X5_puts
theorem dX5_pours_0 : decode cX5_pours 0 = .ok (.iload_n 1, 1) := by decide +kernel
theorem dX5_pours_1 : decode cX5_pours 1 = .ok (.invokestatic 75, 3) := by decide +kernel
theorem dX5_pours_4 : decode cX5_pours 4 = .ok (.ifCond .eq 10, 3) := by decide +kernel
theorem dX5_pours_7 : decode cX5_pours 7 = .ok (.iload_n 2, 1) := by decide +kernel
theorem dX5_pours_8 : decode cX5_pours 8 = .ok (.invokestatic 75, 3) := by decide +kernel
theorem dX5_pours_11 : decode cX5_pours 11 = .ok (.ifCond .ne 5, 3) := by decide +kernel
theorem dX5_pours_14 : decode cX5_pours 14 = .ok (.iconst (-1), 1) := by decide +kernel
theorem dX5_pours_15 : decode cX5_pours 15 = .ok (.ireturn, 1) := by decide +kernel
theorem dX5_pours_16 : decode cX5_pours 16 = .ok (.iload_n 1, 1) := by decide +kernel
theorem dX5_pours_17 : decode cX5_pours 17 = .ok (.iload_n 2, 1) := by decide +kernel
theorem dX5_pours_18 : decode cX5_pours 18 = .ok (.if_icmp .eq 13, 3) := by decide +kernel
theorem dX5_pours_21 : decode cX5_pours 21 = .ok (.iload_n 3, 1) := by decide +kernel
theorem dX5_pours_22 : decode cX5_pours 22 = .ok (.iconst 1, 1) := by decide +kernel
theorem dX5_pours_23 : decode cX5_pours 23 = .ok (.bipush 81, 2) := by decide +kernel
theorem dX5_pours_25 : decode cX5_pours 25 = .ok (.invokestatic 39, 3) := by decide +kernel
theorem dX5_pours_28 : decode cX5_pours 28 = .ok (.ifCond .ne 6, 3) := by decide +kernel
theorem dX5_pours_31 : decode cX5_pours 31 = .ok (.bipush (-2), 2) := by decide +kernel
theorem dX5_pours_33 : decode cX5_pours 33 = .ok (.ireturn, 1) := by decide +kernel
theorem dX5_pours_34 : decode cX5_pours 34 = .ok (.aload_n 0, 1) := by decide +kernel
theorem dX5_pours_35 : decode cX5_pours 35 = .ok (.iload_n 1, 1) := by decide +kernel
theorem dX5_pours_36 : decode cX5_pours 36 = .ok (.invokestatic 72, 3) := by decide +kernel
theorem dX5_pours_39 : decode cX5_pours 39 = .ok (.invokevirtual 47, 3) := by decide +kernel
theorem dX5_pours_42 : decode cX5_pours 42 = .ok (.iload_n 3, 1) := by decide +kernel
theorem dX5_pours_43 : decode cX5_pours 43 = .ok (.if_icmp .ge 6, 3) := by decide +kernel
theorem dX5_pours_46 : decode cX5_pours 46 = .ok (.bipush (-5), 2) := by decide +kernel
theorem dX5_pours_48 : decode cX5_pours 48 = .ok (.ireturn, 1) := by decide +kernel
theorem dX5_pours_49 : decode cX5_pours 49 = .ok (.aload_n 0, 1) := by decide +kernel
theorem dX5_pours_50 : decode cX5_pours 50 = .ok (.iload_n 2, 1) := by decide +kernel
theorem dX5_pours_51 : decode cX5_pours 51 = .ok (.invokestatic 72, 3) := by decide +kernel
theorem dX5_pours_54 : decode cX5_pours 54 = .ok (.invokevirtual 47, 3) := by decide +kernel
theorem dX5_pours_57 : decode cX5_pours 57 = .ok (.iload_n 3, 1) := by decide +kernel
theorem dX5_pours_58 : decode cX5_pours 58 = .ok (.iadd, 1) := by decide +kernel
theorem dX5_pours_59 : decode cX5_pours 59 = .ok (.bipush 81, 2) := by decide +kernel
theorem dX5_pours_61 : decode cX5_pours 61 = .ok (.if_icmp .le 6, 3) := by decide +kernel
theorem dX5_pours_64 : decode cX5_pours 64 = .ok (.bipush (-4), 2) := by decide +kernel
theorem dX5_pours_66 : decode cX5_pours 66 = .ok (.ireturn, 1) := by decide +kernel
theorem dX5_pours_67 : decode cX5_pours 67 = .ok (.aload_n 0, 1) := by decide +kernel
theorem dX5_pours_68 : decode cX5_pours 68 = .ok (.iload_n 1, 1) := by decide +kernel
theorem dX5_pours_69 : decode cX5_pours 69 = .ok (.invokestatic 72, 3) := by decide +kernel
theorem dX5_pours_72 : decode cX5_pours 72 = .ok (.iload_n 3, 1) := by decide +kernel
theorem dX5_pours_73 : decode cX5_pours 73 = .ok (.invokevirtual 78, 3) := by decide +kernel
theorem dX5_pours_76 : decode cX5_pours 76 = .ok (.aload_n 0, 1) := by decide +kernel
theorem dX5_pours_77 : decode cX5_pours 77 = .ok (.iload_n 2, 1) := by decide +kernel
theorem dX5_pours_78 : decode cX5_pours 78 = .ok (.invokestatic 72, 3) := by decide +kernel
theorem dX5_pours_81 : decode cX5_pours 81 = .ok (.invokevirtual 82, 3) := by decide +kernel
theorem dX5_pours_84 : decode cX5_pours 84 = .ok (.aload_n 0, 1) := by decide +kernel
theorem dX5_pours_85 : decode cX5_pours 85 = .ok (.iload_n 2, 1) := by decide +kernel
theorem dX5_pours_86 : decode cX5_pours 86 = .ok (.invokestatic 72, 3) := by decide +kernel
theorem dX5_pours_89 : decode cX5_pours 89 = .ok (.invokevirtual 47, 3) := by decide +kernel
theorem dX5_pours_92 : decode cX5_pours 92 = .ok (.ireturn, 1) := by decide +kernel
set_option maxRecDepth 20000 in
theorem ggX5_dips_X5_isPot : GoodIn wsX5_dips wsX5_isPot := goodIn_r _ [4, 5, 6, 3, 7] (by decide +kernel) (by decide +kernel)
set_option maxRecDepth 20000 in
theorem gX5_dips_X5_isPot : GoodIn wsX5_dips (va_wsS RX5 75 yX5_isPot wsX5_isPot) := goodIn_app (goodIn_of _ (by decide +kernel)) ggX5_dips_X5_isPot
set_option maxRecDepth 20000 in
theorem ggX5_dips_X5_in : GoodIn wsX5_dips wsX5_in := goodIn_r _ [7] (by decide +kernel) (by decide +kernel)
set_option maxRecDepth 20000 in
theorem gX5_dips_X5_in : GoodIn wsX5_dips (va_wsS RX5 39 yX5_in wsX5_in) := goodIn_app (goodIn_of _ (by decide +kernel)) ggX5_dips_X5_in
set_option maxRecDepth 20000 in
theorem ggX5_dips_X5_p : GoodIn wsX5_dips wsX5_p := goodIn_r _ [10] (by decide +kernel) (by decide +kernel)
set_option maxRecDepth 20000 in
theorem gX5_dips_X5_p : GoodIn wsX5_dips (va_wsS RX5 72 yX5_p wsX5_p) := goodIn_app (goodIn_of _ (by decide +kernel)) ggX5_dips_X5_p
set_option maxRecDepth 20000 in
theorem ggX5_dips_X5_drops : GoodIn wsX5_dips wsX5_drops := goodIn_r _ [14, 15, 29, 30, 31, 32, 33, 34, 35, 36, 37, 38, 39, 40, 41] (by decide +kernel) (by decide +kernel)
set_option maxRecDepth 20000 in
theorem gX5_dips_X5_drops : GoodIn wsX5_dips (wsV RX5 47 RX5 yX5_drops wsX5_drops) := goodIn_app (goodIn_of _ (by decide +kernel)) ggX5_dips_X5_drops
set_option maxRecDepth 20000 in
theorem ggX5_dips_X5_takes : GoodIn wsX5_dips wsX5_takes := goodIn_r _ [19, 20, 15, 11, 12, 13, 3, 14, 21, 22, 23, 24, 29, 30, 31, 32, 33, 34, 35, 36, 37, 38, 39, 40, 41] (by decide +kernel) (by decide +kernel)
set_option maxRecDepth 20000 in
theorem gX5_dips_X5_takes : GoodIn wsX5_dips (wsV RX5 78 RX5 yX5_takes wsX5_takes) := goodIn_app (goodIn_of _ (by decide +kernel)) ggX5_dips_X5_takes
set_option maxRecDepth 20000 in
theorem ggX5_dips_X5_puts : GoodIn wsX5_dips wsX5_puts := goodIn_r _ [28, 15, 20, 29, 30, 31, 32, 33, 34, 35, 36, 37, 38, 39, 40, 41] (by decide +kernel) (by decide +kernel)
set_option maxRecDepth 20000 in
theorem gX5_dips_X5_puts : GoodIn wsX5_dips (wsV RX5 82 RX5 yX5_puts wsX5_puts) := goodIn_app (goodIn_of _ (by decide +kernel)) ggX5_dips_X5_puts
theorem dX5_dips_0 : decode cX5_dips 0 = .ok (.iload_n 1, 1) := by decide +kernel
theorem dX5_dips_1 : decode cX5_dips 1 = .ok (.invokestatic 75, 3) := by decide +kernel
theorem dX5_dips_4 : decode cX5_dips 4 = .ok (.ifCond .ne 5, 3) := by decide +kernel
theorem dX5_dips_7 : decode cX5_dips 7 = .ok (.iconst (-1), 1) := by decide +kernel
theorem dX5_dips_8 : decode cX5_dips 8 = .ok (.ireturn, 1) := by decide +kernel
theorem dX5_dips_9 : decode cX5_dips 9 = .ok (.iload_n 2, 1) := by decide +kernel
theorem dX5_dips_10 : decode cX5_dips 10 = .ok (.iconst 1, 1) := by decide +kernel
theorem dX5_dips_11 : decode cX5_dips 11 = .ok (.bipush 9, 2) := by decide +kernel
theorem dX5_dips_13 : decode cX5_dips 13 = .ok (.invokestatic 39, 3) := by decide +kernel
theorem dX5_dips_16 : decode cX5_dips 16 = .ok (.ifCond .ne 6, 3) := by decide +kernel
theorem dX5_dips_19 : decode cX5_dips 19 = .ok (.bipush (-2), 2) := by decide +kernel
theorem dX5_dips_21 : decode cX5_dips 21 = .ok (.ireturn, 1) := by decide +kernel
theorem dX5_dips_22 : decode cX5_dips 22 = .ok (.aload_n 0, 1) := by decide +kernel
theorem dX5_dips_23 : decode cX5_dips 23 = .ok (.iload_n 1, 1) := by decide +kernel
theorem dX5_dips_24 : decode cX5_dips 24 = .ok (.invokestatic 72, 3) := by decide +kernel
theorem dX5_dips_27 : decode cX5_dips 27 = .ok (.invokevirtual 47, 3) := by decide +kernel
theorem dX5_dips_30 : decode cX5_dips 30 = .ok (.iload_n 2, 1) := by decide +kernel
theorem dX5_dips_31 : decode cX5_dips 31 = .ok (.if_icmp .ge 6, 3) := by decide +kernel
theorem dX5_dips_34 : decode cX5_dips 34 = .ok (.bipush (-5), 2) := by decide +kernel
theorem dX5_dips_36 : decode cX5_dips 36 = .ok (.ireturn, 1) := by decide +kernel
theorem dX5_dips_37 : decode cX5_dips 37 = .ok (.aload_n 0, 1) := by decide +kernel
theorem dX5_dips_38 : decode cX5_dips 38 = .ok (.bipush 47, 2) := by decide +kernel
theorem dX5_dips_40 : decode cX5_dips 40 = .ok (.invokevirtual 47, 3) := by decide +kernel
theorem dX5_dips_43 : decode cX5_dips 43 = .ok (.iload_n 2, 1) := by decide +kernel
theorem dX5_dips_44 : decode cX5_dips 44 = .ok (.iadd, 1) := by decide +kernel
theorem dX5_dips_45 : decode cX5_dips 45 = .ok (.bipush 9, 2) := by decide +kernel
theorem dX5_dips_47 : decode cX5_dips 47 = .ok (.if_icmp .le 6, 3) := by decide +kernel
theorem dX5_dips_50 : decode cX5_dips 50 = .ok (.bipush (-4), 2) := by decide +kernel
theorem dX5_dips_52 : decode cX5_dips 52 = .ok (.ireturn, 1) := by decide +kernel
theorem dX5_dips_53 : decode cX5_dips 53 = .ok (.aload_n 0, 1) := by decide +kernel
theorem dX5_dips_54 : decode cX5_dips 54 = .ok (.iload_n 1, 1) := by decide +kernel
theorem dX5_dips_55 : decode cX5_dips 55 = .ok (.invokestatic 72, 3) := by decide +kernel
theorem dX5_dips_58 : decode cX5_dips 58 = .ok (.iload_n 2, 1) := by decide +kernel
theorem dX5_dips_59 : decode cX5_dips 59 = .ok (.invokevirtual 78, 3) := by decide +kernel
theorem dX5_dips_62 : decode cX5_dips 62 = .ok (.aload_n 0, 1) := by decide +kernel
theorem dX5_dips_63 : decode cX5_dips 63 = .ok (.bipush 47, 2) := by decide +kernel
theorem dX5_dips_65 : decode cX5_dips 65 = .ok (.invokevirtual 82, 3) := by decide +kernel
theorem dX5_dips_68 : decode cX5_dips 68 = .ok (.aload_n 0, 1) := by decide +kernel
theorem dX5_dips_69 : decode cX5_dips 69 = .ok (.bipush 47, 2) := by decide +kernel
theorem dX5_dips_71 : decode cX5_dips 71 = .ok (.invokevirtual 47, 3) := by decide +kernel
theorem dX5_dips_74 : decode cX5_dips 74 = .ok (.ireturn, 1) := by decide +kernel
set_option maxRecDepth 20000 in
theorem ggX5_paints_X5_isPanel : GoodIn wsX5_paints wsX5_isPanel := goodIn_r _ [6, 7, 8, 5, 9] (by decide +kernel) (by decide +kernel)
set_option maxRecDepth 20000 in
theorem gX5_paints_X5_isPanel : GoodIn wsX5_paints (va_wsS RX5 86 yX5_isPanel wsX5_isPanel) := goodIn_app (goodIn_of _ (by decide +kernel)) ggX5_paints_X5_isPanel
set_option maxRecDepth 20000 in
theorem ggX5_paints_X5_drops : GoodIn wsX5_paints wsX5_drops := goodIn_r _ [13, 1, 41, 42, 43, 44, 45, 46, 47, 48, 49, 50, 51, 52, 53] (by decide +kernel) (by decide +kernel)
set_option maxRecDepth 20000 in
theorem gX5_paints_X5_drops : GoodIn wsX5_paints (wsV RX5 47 RX5 yX5_drops wsX5_drops) := goodIn_app (goodIn_of _ (by decide +kernel)) ggX5_paints_X5_drops
set_option maxRecDepth 20000 in
theorem ggX5_paints_X5_looksAt : GoodIn wsX5_paints wsX5_looksAt := goodIn_r _ [17, 2, 18, 19, 20, 5, 21, 1, 10, 11, 12, 13, 41, 42, 43, 44, 45, 46, 47, 48, 49, 50, 51, 52, 53] (by decide +kernel) (by decide +kernel)
set_option maxRecDepth 20000 in
theorem gX5_paints_X5_looksAt : GoodIn wsX5_paints (wsV RX5 89 RX5 yX5_looksAt wsX5_looksAt) := goodIn_app (goodIn_of _ (by decide +kernel)) ggX5_paints_X5_looksAt
set_option maxRecDepth 20000 in
theorem ggX5_paints_X5_n : GoodIn wsX5_paints wsX5_n := goodIn_r _ [24] (by decide +kernel) (by decide +kernel)
set_option maxRecDepth 20000 in
theorem gX5_paints_X5_n : GoodIn wsX5_paints (va_wsS RX5 51 yX5_n wsX5_n) := goodIn_app (goodIn_of _ (by decide +kernel)) ggX5_paints_X5_n
set_option maxRecDepth 20000 in
theorem ggX5_paints_X5_takes : GoodIn wsX5_paints wsX5_takes := goodIn_r _ [28, 29, 1, 10, 11, 12, 5, 13, 30, 31, 32, 33, 41, 42, 43, 44, 45, 46, 47, 48, 49, 50, 51, 52, 53] (by decide +kernel) (by decide +kernel)
set_option maxRecDepth 20000 in
theorem gX5_paints_X5_takes : GoodIn wsX5_paints (wsV RX5 78 RX5 yX5_takes wsX5_takes) := goodIn_app (goodIn_of _ (by decide +kernel)) ggX5_paints_X5_takes
set_option maxRecDepth 20000 in
theorem ggX5_paints_X5_distance : GoodIn wsX5_paints wsX5_distance := goodIn_r _ [37, 2, 1, 22, 23, 5, 24, 38, 39, 40, 41, 42, 43, 44, 45, 46, 47, 48, 49, 50, 51, 52, 53] (by decide +kernel) (by decide +kernel)
set_option maxRecDepth 20000 in
theorem gX5_paints_X5_distance : GoodIn wsX5_paints (wsV RX5 65 RX5 yX5_distance wsX5_distance) := goodIn_app (goodIn_of _ (by decide +kernel)) ggX5_paints_X5_distance
theorem dX5_paints_0 : decode cX5_paints 0 = .ok (.iload_n 1, 1) := by decide +kernel
theorem dX5_paints_1 : decode cX5_paints 1 = .ok (.invokestatic 86, 3) := by decide +kernel
theorem dX5_paints_4 : decode cX5_paints 4 = .ok (.ifCond .ne 5, 3) := by decide +kernel
theorem dX5_paints_7 : decode cX5_paints 7 = .ok (.iconst (-1), 1) := by decide +kernel
theorem dX5_paints_8 : decode cX5_paints 8 = .ok (.ireturn, 1) := by decide +kernel
theorem dX5_paints_9 : decode cX5_paints 9 = .ok (.aload_n 0, 1) := by decide +kernel
theorem dX5_paints_10 : decode cX5_paints 10 = .ok (.bipush 47, 2) := by decide +kernel
theorem dX5_paints_12 : decode cX5_paints 12 = .ok (.invokevirtual 47, 3) := by decide +kernel
theorem dX5_paints_15 : decode cX5_paints 15 = .ok (.aload_n 0, 1) := by decide +kernel
theorem dX5_paints_16 : decode cX5_paints 16 = .ok (.getfield 7, 3) := by decide +kernel
theorem dX5_paints_19 : decode cX5_paints 19 = .ok (.iconst 0, 1) := by decide +kernel
theorem dX5_paints_20 : decode cX5_paints 20 = .ok (.iaload, 1) := by decide +kernel
theorem dX5_paints_21 : decode cX5_paints 21 = .ok (.if_icmp .ge 6, 3) := by decide +kernel
theorem dX5_paints_24 : decode cX5_paints 24 = .ok (.bipush (-5), 2) := by decide +kernel
theorem dX5_paints_26 : decode cX5_paints 26 = .ok (.ireturn, 1) := by decide +kernel
theorem dX5_paints_27 : decode cX5_paints 27 = .ok (.aload_n 0, 1) := by decide +kernel
theorem dX5_paints_28 : decode cX5_paints 28 = .ok (.bipush 47, 2) := by decide +kernel
theorem dX5_paints_30 : decode cX5_paints 30 = .ok (.invokevirtual 89, 3) := by decide +kernel
theorem dX5_paints_33 : decode cX5_paints 33 = .ok (.iconst 0, 1) := by decide +kernel
theorem dX5_paints_34 : decode cX5_paints 34 = .ok (.istore_n 2, 1) := by decide +kernel
theorem dX5_paints_35 : decode cX5_paints 35 = .ok (.iload_n 2, 1) := by decide +kernel
theorem dX5_paints_36 : decode cX5_paints 36 = .ok (.iconst 3, 1) := by decide +kernel
theorem dX5_paints_37 : decode cX5_paints 37 = .ok (.if_icmp .ge 28, 3) := by decide +kernel
theorem dX5_paints_40 : decode cX5_paints 40 = .ok (.aload_n 0, 1) := by decide +kernel
theorem dX5_paints_41 : decode cX5_paints 41 = .ok (.getfield 7, 3) := by decide +kernel
theorem dX5_paints_44 : decode cX5_paints 44 = .ok (.iload_n 1, 1) := by decide +kernel
theorem dX5_paints_45 : decode cX5_paints 45 = .ok (.invokestatic 51, 3) := by decide +kernel
theorem dX5_paints_48 : decode cX5_paints 48 = .ok (.iconst 4, 1) := by decide +kernel
theorem dX5_paints_49 : decode cX5_paints 49 = .ok (.iadd, 1) := by decide +kernel
theorem dX5_paints_50 : decode cX5_paints 50 = .ok (.iload_n 2, 1) := by decide +kernel
theorem dX5_paints_51 : decode cX5_paints 51 = .ok (.iadd, 1) := by decide +kernel
theorem dX5_paints_52 : decode cX5_paints 52 = .ok (.aload_n 0, 1) := by decide +kernel
theorem dX5_paints_53 : decode cX5_paints 53 = .ok (.getfield 29, 3) := by decide +kernel
theorem dX5_paints_56 : decode cX5_paints 56 = .ok (.iload_n 2, 1) := by decide +kernel
theorem dX5_paints_57 : decode cX5_paints 57 = .ok (.iaload, 1) := by decide +kernel
theorem dX5_paints_58 : decode cX5_paints 58 = .ok (.iastore, 1) := by decide +kernel
theorem dX5_paints_59 : decode cX5_paints 59 = .ok (.iinc 2 1, 3) := by decide +kernel
theorem dX5_paints_62 : decode cX5_paints 62 = .ok (.goto (-27), 3) := by decide +kernel
theorem dX5_paints_65 : decode cX5_paints 65 = .ok (.aload_n 0, 1) := by decide +kernel
theorem dX5_paints_66 : decode cX5_paints 66 = .ok (.getfield 7, 3) := by decide +kernel
theorem dX5_paints_69 : decode cX5_paints 69 = .ok (.iload_n 1, 1) := by decide +kernel
theorem dX5_paints_70 : decode cX5_paints 70 = .ok (.invokestatic 51, 3) := by decide +kernel
theorem dX5_paints_73 : decode cX5_paints 73 = .ok (.iconst 3, 1) := by decide +kernel
theorem dX5_paints_74 : decode cX5_paints 74 = .ok (.iadd, 1) := by decide +kernel
theorem dX5_paints_75 : decode cX5_paints 75 = .ok (.iconst 1, 1) := by decide +kernel
theorem dX5_paints_76 : decode cX5_paints 76 = .ok (.iastore, 1) := by decide +kernel
theorem dX5_paints_77 : decode cX5_paints 77 = .ok (.aload_n 0, 1) := by decide +kernel
theorem dX5_paints_78 : decode cX5_paints 78 = .ok (.getfield 7, 3) := by decide +kernel
theorem dX5_paints_81 : decode cX5_paints 81 = .ok (.iload_n 1, 1) := by decide +kernel
theorem dX5_paints_82 : decode cX5_paints 82 = .ok (.invokestatic 51, 3) := by decide +kernel
theorem dX5_paints_85 : decode cX5_paints 85 = .ok (.bipush 7, 2) := by decide +kernel
theorem dX5_paints_87 : decode cX5_paints 87 = .ok (.iadd, 1) := by decide +kernel
theorem dX5_paints_88 : decode cX5_paints 88 = .ok (.dup2, 1) := by decide +kernel
theorem dX5_paints_89 : decode cX5_paints 89 = .ok (.iaload, 1) := by decide +kernel
theorem dX5_paints_90 : decode cX5_paints 90 = .ok (.iconst 1, 1) := by decide +kernel
theorem dX5_paints_91 : decode cX5_paints 91 = .ok (.iadd, 1) := by decide +kernel
theorem dX5_paints_92 : decode cX5_paints 92 = .ok (.iastore, 1) := by decide +kernel
theorem dX5_paints_93 : decode cX5_paints 93 = .ok (.aload_n 0, 1) := by decide +kernel
theorem dX5_paints_94 : decode cX5_paints 94 = .ok (.bipush 47, 2) := by decide +kernel
theorem dX5_paints_96 : decode cX5_paints 96 = .ok (.aload_n 0, 1) := by decide +kernel
theorem dX5_paints_97 : decode cX5_paints 97 = .ok (.getfield 7, 3) := by decide +kernel
theorem dX5_paints_100 : decode cX5_paints 100 = .ok (.iconst 0, 1) := by decide +kernel
theorem dX5_paints_101 : decode cX5_paints 101 = .ok (.iaload, 1) := by decide +kernel
theorem dX5_paints_102 : decode cX5_paints 102 = .ok (.invokevirtual 78, 3) := by decide +kernel
theorem dX5_paints_105 : decode cX5_paints 105 = .ok (.aload_n 0, 1) := by decide +kernel
theorem dX5_paints_106 : decode cX5_paints 106 = .ok (.getfield 7, 3) := by decide +kernel
theorem dX5_paints_109 : decode cX5_paints 109 = .ok (.iconst 3, 1) := by decide +kernel
theorem dX5_paints_110 : decode cX5_paints 110 = .ok (.dup2, 1) := by decide +kernel
theorem dX5_paints_111 : decode cX5_paints 111 = .ok (.iaload, 1) := by decide +kernel
theorem dX5_paints_112 : decode cX5_paints 112 = .ok (.aload_n 0, 1) := by decide +kernel
theorem dX5_paints_113 : decode cX5_paints 113 = .ok (.getfield 7, 3) := by decide +kernel
theorem dX5_paints_116 : decode cX5_paints 116 = .ok (.iconst 0, 1) := by decide +kernel
theorem dX5_paints_117 : decode cX5_paints 117 = .ok (.iaload, 1) := by decide +kernel
theorem dX5_paints_118 : decode cX5_paints 118 = .ok (.iadd, 1) := by decide +kernel
theorem dX5_paints_119 : decode cX5_paints 119 = .ok (.iastore, 1) := by decide +kernel
theorem dX5_paints_120 : decode cX5_paints 120 = .ok (.aload_n 0, 1) := by decide +kernel
theorem dX5_paints_121 : decode cX5_paints 121 = .ok (.getfield 7, 3) := by decide +kernel
theorem dX5_paints_124 : decode cX5_paints 124 = .ok (.iconst 5, 1) := by decide +kernel
theorem dX5_paints_125 : decode cX5_paints 125 = .ok (.dup2, 1) := by decide +kernel
theorem dX5_paints_126 : decode cX5_paints 126 = .ok (.iaload, 1) := by decide +kernel
theorem dX5_paints_127 : decode cX5_paints 127 = .ok (.iconst 1, 1) := by decide +kernel
theorem dX5_paints_128 : decode cX5_paints 128 = .ok (.iadd, 1) := by decide +kernel
theorem dX5_paints_129 : decode cX5_paints 129 = .ok (.iastore, 1) := by decide +kernel
theorem dX5_paints_130 : decode cX5_paints 130 = .ok (.aload_n 0, 1) := by decide +kernel
theorem dX5_paints_131 : decode cX5_paints 131 = .ok (.iload_n 1, 1) := by decide +kernel
theorem dX5_paints_132 : decode cX5_paints 132 = .ok (.invokevirtual 65, 3) := by decide +kernel
theorem dX5_paints_135 : decode cX5_paints 135 = .ok (.ireturn, 1) := by decide +kernel
set_option maxRecDepth 20000 in
theorem ggX5_rinsesBrush_X5_drops : GoodIn wsX5_rinsesBrush wsX5_drops := goodIn_r _ [6, 1, 11, 12, 13, 14, 15, 16, 17, 18, 19, 20, 21, 22, 23] (by decide +kernel) (by decide +kernel)
set_option maxRecDepth 20000 in
theorem gX5_rinsesBrush_X5_drops : GoodIn wsX5_rinsesBrush (wsV RX5 47 RX5 yX5_drops wsX5_drops) := goodIn_app (goodIn_of _ (by decide +kernel)) ggX5_rinsesBrush_X5_drops
set_option maxRecDepth 20000 in
theorem ggX5_rinsesBrush_X5_clears : GoodIn wsX5_rinsesBrush wsX5_clears := goodIn_r _ [10, 1, 11, 12, 13, 14, 15, 16, 17, 18, 19, 20, 21, 22, 23] (by decide +kernel) (by decide +kernel)
set_option maxRecDepth 20000 in
theorem gX5_rinsesBrush_X5_clears : GoodIn wsX5_rinsesBrush (wsV RX5 92 RX5 yX5_clears wsX5_clears) := goodIn_app (goodIn_of _ (by decide +kernel)) ggX5_rinsesBrush_X5_clears
theorem dX5_rinsesBrush_0 : decode cX5_rinsesBrush 0 = .ok (.aload_n 0, 1) := by decide +kernel
theorem dX5_rinsesBrush_1 : decode cX5_rinsesBrush 1 = .ok (.bipush 47, 2) := by decide +kernel
theorem dX5_rinsesBrush_3 : decode cX5_rinsesBrush 3 = .ok (.invokevirtual 47, 3) := by decide +kernel
theorem dX5_rinsesBrush_6 : decode cX5_rinsesBrush 6 = .ok (.istore_n 1, 1) := by decide +kernel
theorem dX5_rinsesBrush_7 : decode cX5_rinsesBrush 7 = .ok (.aload_n 0, 1) := by decide +kernel
theorem dX5_rinsesBrush_8 : decode cX5_rinsesBrush 8 = .ok (.bipush 47, 2) := by decide +kernel
theorem dX5_rinsesBrush_10 : decode cX5_rinsesBrush 10 = .ok (.invokevirtual 92, 3) := by decide +kernel
theorem dX5_rinsesBrush_13 : decode cX5_rinsesBrush 13 = .ok (.aload_n 0, 1) := by decide +kernel
theorem dX5_rinsesBrush_14 : decode cX5_rinsesBrush 14 = .ok (.getfield 7, 3) := by decide +kernel
theorem dX5_rinsesBrush_17 : decode cX5_rinsesBrush 17 = .ok (.iconst 4, 1) := by decide +kernel
theorem dX5_rinsesBrush_18 : decode cX5_rinsesBrush 18 = .ok (.dup2, 1) := by decide +kernel
theorem dX5_rinsesBrush_19 : decode cX5_rinsesBrush 19 = .ok (.iaload, 1) := by decide +kernel
theorem dX5_rinsesBrush_20 : decode cX5_rinsesBrush 20 = .ok (.iload_n 1, 1) := by decide +kernel
theorem dX5_rinsesBrush_21 : decode cX5_rinsesBrush 21 = .ok (.iadd, 1) := by decide +kernel
theorem dX5_rinsesBrush_22 : decode cX5_rinsesBrush 22 = .ok (.iastore, 1) := by decide +kernel
theorem dX5_rinsesBrush_23 : decode cX5_rinsesBrush 23 = .ok (.aload_n 0, 1) := by decide +kernel
theorem dX5_rinsesBrush_24 : decode cX5_rinsesBrush 24 = .ok (.getfield 7, 3) := by decide +kernel
theorem dX5_rinsesBrush_27 : decode cX5_rinsesBrush 27 = .ok (.bipush 6, 2) := by decide +kernel
theorem dX5_rinsesBrush_29 : decode cX5_rinsesBrush 29 = .ok (.dup2, 1) := by decide +kernel
theorem dX5_rinsesBrush_30 : decode cX5_rinsesBrush 30 = .ok (.iaload, 1) := by decide +kernel
theorem dX5_rinsesBrush_31 : decode cX5_rinsesBrush 31 = .ok (.iload_n 1, 1) := by decide +kernel
theorem dX5_rinsesBrush_32 : decode cX5_rinsesBrush 32 = .ok (.ifCond .le 7, 3) := by decide +kernel
theorem dX5_rinsesBrush_35 : decode cX5_rinsesBrush 35 = .ok (.iconst 1, 1) := by decide +kernel
theorem dX5_rinsesBrush_36 : decode cX5_rinsesBrush 36 = .ok (.goto 4, 3) := by decide +kernel
theorem dX5_rinsesBrush_39 : decode cX5_rinsesBrush 39 = .ok (.iconst 0, 1) := by decide +kernel
theorem dX5_rinsesBrush_40 : decode cX5_rinsesBrush 40 = .ok (.iadd, 1) := by decide +kernel
theorem dX5_rinsesBrush_41 : decode cX5_rinsesBrush 41 = .ok (.iastore, 1) := by decide +kernel
theorem dX5_rinsesBrush_42 : decode cX5_rinsesBrush 42 = .ok (.iload_n 1, 1) := by decide +kernel
theorem dX5_rinsesBrush_43 : decode cX5_rinsesBrush 43 = .ok (.ireturn, 1) := by decide +kernel
set_option maxRecDepth 20000 in
theorem ggX5_set_X5_in : GoodIn wsX5_set wsX5_in := goodIn_r _ [5] (by decide +kernel) (by decide +kernel)
set_option maxRecDepth 20000 in
theorem gX5_set_X5_in : GoodIn wsX5_set (va_wsS RX5 39 yX5_in wsX5_in) := goodIn_app (goodIn_of _ (by decide +kernel)) ggX5_set_X5_in
set_option maxRecDepth 20000 in
theorem ggX5_set_X5_hold : GoodIn wsX5_set wsX5_hold := goodIn_r _ [9, 10, 1, 17, 18, 19, 20, 21, 22, 23, 24, 25, 26, 27, 28, 29] (by decide +kernel) (by decide +kernel)
set_option maxRecDepth 20000 in
theorem gX5_set_X5_hold : GoodIn wsX5_set (wsV RX5 95 RX5 yX5_hold wsX5_hold) := goodIn_app (goodIn_of _ (by decide +kernel)) ggX5_set_X5_hold
set_option maxRecDepth 20000 in
theorem ggX5_set_X5_recorded : GoodIn wsX5_set wsX5_recorded := goodIn_r _ [14, 15, 16, 10, 17, 18, 19, 20, 21, 22, 23, 24, 25, 26, 27, 28, 29] (by decide +kernel) (by decide +kernel)
set_option maxRecDepth 20000 in
theorem gX5_set_X5_recorded : GoodIn wsX5_set (wsV RX5 98 RX5 yX5_recorded wsX5_recorded) := goodIn_app (goodIn_of _ (by decide +kernel)) ggX5_set_X5_recorded
theorem dX5_set_0 : decode cX5_set 0 = .ok (.iload_n 1, 1) := by decide +kernel
theorem dX5_set_1 : decode cX5_set 1 = .ok (.ifCond .ne 13, 3) := by decide +kernel
theorem dX5_set_4 : decode cX5_set 4 = .ok (.iload_n 2, 1) := by decide +kernel
theorem dX5_set_5 : decode cX5_set 5 = .ok (.iconst 1, 1) := by decide +kernel
theorem dX5_set_6 : decode cX5_set 6 = .ok (.bipush 9, 2) := by decide +kernel
theorem dX5_set_8 : decode cX5_set 8 = .ok (.invokestatic 39, 3) := by decide +kernel
theorem dX5_set_11 : decode cX5_set 11 = .ok (.goto 23, 3) := by decide +kernel
theorem dX5_set_14 : decode cX5_set 14 = .ok (.iload_n 1, 1) := by decide +kernel
theorem dX5_set_15 : decode cX5_set 15 = .ok (.iconst 1, 1) := by decide +kernel
theorem dX5_set_16 : decode cX5_set 16 = .ok (.if_icmp .ne 17, 3) := by decide +kernel
theorem dX5_set_19 : decode cX5_set 19 = .ok (.iload_n 2, 1) := by decide +kernel
theorem dX5_set_20 : decode cX5_set 20 = .ok (.iconst 0, 1) := by decide +kernel
theorem dX5_set_21 : decode cX5_set 21 = .ok (.bipush 60, 2) := by decide +kernel
theorem dX5_set_23 : decode cX5_set 23 = .ok (.invokestatic 39, 3) := by decide +kernel
theorem dX5_set_26 : decode cX5_set 26 = .ok (.ifCond .eq 7, 3) := by decide +kernel
theorem dX5_set_29 : decode cX5_set 29 = .ok (.iconst 1, 1) := by decide +kernel
theorem dX5_set_30 : decode cX5_set 30 = .ok (.goto 4, 3) := by decide +kernel
theorem dX5_set_33 : decode cX5_set 33 = .ok (.iconst 0, 1) := by decide +kernel
theorem dX5_set_34 : decode cX5_set 34 = .ok (.istore_n 3, 1) := by decide +kernel
theorem dX5_set_35 : decode cX5_set 35 = .ok (.iload_n 3, 1) := by decide +kernel
theorem dX5_set_36 : decode cX5_set 36 = .ok (.ifCond .ne 6, 3) := by decide +kernel
theorem dX5_set_39 : decode cX5_set 39 = .ok (.bipush (-2), 2) := by decide +kernel
theorem dX5_set_41 : decode cX5_set 41 = .ok (.ireturn, 1) := by decide +kernel
theorem dX5_set_42 : decode cX5_set 42 = .ok (.aload_n 0, 1) := by decide +kernel
theorem dX5_set_43 : decode cX5_set 43 = .ok (.invokevirtual 95, 3) := by decide +kernel
theorem dX5_set_46 : decode cX5_set 46 = .ok (.aload_n 0, 1) := by decide +kernel
theorem dX5_set_47 : decode cX5_set 47 = .ok (.getfield 7, 3) := by decide +kernel
theorem dX5_set_50 : decode cX5_set 50 = .ok (.iload_n 1, 1) := by decide +kernel
theorem dX5_set_51 : decode cX5_set 51 = .ok (.iaload, 1) := by decide +kernel
theorem dX5_set_52 : decode cX5_set 52 = .ok (.istore 4, 2) := by decide +kernel
theorem dX5_set_54 : decode cX5_set 54 = .ok (.aload_n 0, 1) := by decide +kernel
theorem dX5_set_55 : decode cX5_set 55 = .ok (.getfield 7, 3) := by decide +kernel
theorem dX5_set_58 : decode cX5_set 58 = .ok (.iload_n 1, 1) := by decide +kernel
theorem dX5_set_59 : decode cX5_set 59 = .ok (.iload_n 2, 1) := by decide +kernel
theorem dX5_set_60 : decode cX5_set 60 = .ok (.iastore, 1) := by decide +kernel
theorem dX5_set_61 : decode cX5_set 61 = .ok (.aload_n 0, 1) := by decide +kernel
theorem dX5_set_62 : decode cX5_set 62 = .ok (.iload 4, 2) := by decide +kernel
theorem dX5_set_64 : decode cX5_set 64 = .ok (.invokevirtual 98, 3) := by decide +kernel
theorem dX5_set_67 : decode cX5_set 67 = .ok (.ireturn, 1) := by decide +kernel
set_option maxRecDepth 20000 in
theorem ggX5_fill_X5_hold : GoodIn wsX5_fill wsX5_hold := goodIn_r _ [5, 6, 7, 31, 32, 33, 34, 35, 36, 37, 38, 39, 40, 41, 42, 43] (by decide +kernel) (by decide +kernel)
set_option maxRecDepth 20000 in
theorem gX5_fill_X5_hold : GoodIn wsX5_fill (wsV RX5 95 RX5 yX5_hold wsX5_hold) := goodIn_app (goodIn_of _ (by decide +kernel)) ggX5_fill_X5_hold
set_option maxRecDepth 20000 in
theorem ggX5_fill_X5_fills : GoodIn wsX5_fill wsX5_fills := goodIn_r _ [11, 7, 12, 13, 4, 14, 15, 16, 17, 18, 19, 20, 21, 22, 23, 24, 31, 32, 33, 34, 35, 36, 37, 38, 39, 40, 41, 42, 43] (by decide +kernel) (by decide +kernel)
set_option maxRecDepth 20000 in
theorem gX5_fill_X5_fills : GoodIn wsX5_fill (wsV RX5 101 RX5 yX5_fills wsX5_fills) := goodIn_app (goodIn_of _ (by decide +kernel)) ggX5_fill_X5_fills
set_option maxRecDepth 20000 in
theorem ggX5_fill_X5_recorded : GoodIn wsX5_fill wsX5_recorded := goodIn_r _ [28, 29, 30, 6, 31, 32, 33, 34, 35, 36, 37, 38, 39, 40, 41, 42, 43] (by decide +kernel) (by decide +kernel)
set_option maxRecDepth 20000 in
theorem gX5_fill_X5_recorded : GoodIn wsX5_fill (wsV RX5 98 RX5 yX5_recorded wsX5_recorded) := goodIn_app (goodIn_of _ (by decide +kernel)) ggX5_fill_X5_recorded
theorem dX5_fill_0 : decode cX5_fill 0 = .ok (.aload_n 0, 1) := by decide +kernel
theorem dX5_fill_1 : decode cX5_fill 1 = .ok (.invokevirtual 95, 3) := by decide +kernel
theorem dX5_fill_4 : decode cX5_fill 4 = .ok (.aload_n 0, 1) := by decide +kernel
theorem dX5_fill_5 : decode cX5_fill 5 = .ok (.aload_n 0, 1) := by decide +kernel
theorem dX5_fill_6 : decode cX5_fill 6 = .ok (.iload_n 1, 1) := by decide +kernel
theorem dX5_fill_7 : decode cX5_fill 7 = .ok (.iload_n 2, 1) := by decide +kernel
theorem dX5_fill_8 : decode cX5_fill 8 = .ok (.iload_n 3, 1) := by decide +kernel
theorem dX5_fill_9 : decode cX5_fill 9 = .ok (.invokevirtual 101, 3) := by decide +kernel
theorem dX5_fill_12 : decode cX5_fill 12 = .ok (.invokevirtual 98, 3) := by decide +kernel
theorem dX5_fill_15 : decode cX5_fill 15 = .ok (.ireturn, 1) := by decide +kernel
set_option maxRecDepth 20000 in
theorem ggX5_thin_X5_hold : GoodIn wsX5_thin wsX5_hold := goodIn_r _ [5, 6, 7, 31, 32, 33, 34, 35, 36, 37, 38, 39, 40, 41, 42, 43] (by decide +kernel) (by decide +kernel)
set_option maxRecDepth 20000 in
theorem gX5_thin_X5_hold : GoodIn wsX5_thin (wsV RX5 95 RX5 yX5_hold wsX5_hold) := goodIn_app (goodIn_of _ (by decide +kernel)) ggX5_thin_X5_hold
set_option maxRecDepth 20000 in
theorem ggX5_thin_X5_thins : GoodIn wsX5_thin wsX5_thins := goodIn_r _ [11, 7, 12, 13, 4, 14, 15, 16, 17, 18, 19, 20, 21, 22, 23, 24, 31, 32, 33, 34, 35, 36, 37, 38, 39, 40, 41, 42, 43] (by decide +kernel) (by decide +kernel)
set_option maxRecDepth 20000 in
theorem gX5_thin_X5_thins : GoodIn wsX5_thin (wsV RX5 104 RX5 yX5_thins wsX5_thins) := goodIn_app (goodIn_of _ (by decide +kernel)) ggX5_thin_X5_thins
set_option maxRecDepth 20000 in
theorem ggX5_thin_X5_recorded : GoodIn wsX5_thin wsX5_recorded := goodIn_r _ [28, 29, 30, 6, 31, 32, 33, 34, 35, 36, 37, 38, 39, 40, 41, 42, 43] (by decide +kernel) (by decide +kernel)
set_option maxRecDepth 20000 in
theorem gX5_thin_X5_recorded : GoodIn wsX5_thin (wsV RX5 98 RX5 yX5_recorded wsX5_recorded) := goodIn_app (goodIn_of _ (by decide +kernel)) ggX5_thin_X5_recorded
theorem dX5_thin_0 : decode cX5_thin 0 = .ok (.aload_n 0, 1) := by decide +kernel
theorem dX5_thin_1 : decode cX5_thin 1 = .ok (.invokevirtual 95, 3) := by decide +kernel
theorem dX5_thin_4 : decode cX5_thin 4 = .ok (.aload_n 0, 1) := by decide +kernel
theorem dX5_thin_5 : decode cX5_thin 5 = .ok (.aload_n 0, 1) := by decide +kernel
theorem dX5_thin_6 : decode cX5_thin 6 = .ok (.iload_n 1, 1) := by decide +kernel
theorem dX5_thin_7 : decode cX5_thin 7 = .ok (.invokevirtual 104, 3) := by decide +kernel
theorem dX5_thin_10 : decode cX5_thin 10 = .ok (.invokevirtual 98, 3) := by decide +kernel
theorem dX5_thin_13 : decode cX5_thin 13 = .ok (.ireturn, 1) := by decide +kernel
set_option maxRecDepth 20000 in
theorem ggX5_pour_X5_hold : GoodIn wsX5_pour wsX5_hold := goodIn_r _ [5, 6, 7, 44, 45, 46, 47, 48, 49, 50, 51, 52, 53, 54, 55, 56] (by decide +kernel) (by decide +kernel)
set_option maxRecDepth 20000 in
theorem gX5_pour_X5_hold : GoodIn wsX5_pour (wsV RX5 95 RX5 yX5_hold wsX5_hold) := goodIn_app (goodIn_of _ (by decide +kernel)) ggX5_pour_X5_hold
set_option maxRecDepth 20000 in
theorem ggX5_pour_X5_pours : GoodIn wsX5_pour wsX5_pours := goodIn_r _ [11, 12, 13, 4, 14, 15, 16, 17, 18, 19, 20, 21, 22, 23, 24, 7, 25, 26, 27, 28, 29, 30, 31, 32, 33, 34, 35, 36, 37, 44, 45, 46, 47, 48, 49, 50, 51, 52, 53, 54, 55, 56] (by decide +kernel) (by decide +kernel)
set_option maxRecDepth 20000 in
theorem gX5_pour_X5_pours : GoodIn wsX5_pour (wsV RX5 107 RX5 yX5_pours wsX5_pours) := goodIn_app (goodIn_of _ (by decide +kernel)) ggX5_pour_X5_pours
set_option maxRecDepth 20000 in
theorem ggX5_pour_X5_recorded : GoodIn wsX5_pour wsX5_recorded := goodIn_r _ [41, 42, 43, 6, 44, 45, 46, 47, 48, 49, 50, 51, 52, 53, 54, 55, 56] (by decide +kernel) (by decide +kernel)
set_option maxRecDepth 20000 in
theorem gX5_pour_X5_recorded : GoodIn wsX5_pour (wsV RX5 98 RX5 yX5_recorded wsX5_recorded) := goodIn_app (goodIn_of _ (by decide +kernel)) ggX5_pour_X5_recorded
theorem dX5_pour_0 : decode cX5_pour 0 = .ok (.aload_n 0, 1) := by decide +kernel
theorem dX5_pour_1 : decode cX5_pour 1 = .ok (.invokevirtual 95, 3) := by decide +kernel
theorem dX5_pour_4 : decode cX5_pour 4 = .ok (.aload_n 0, 1) := by decide +kernel
theorem dX5_pour_5 : decode cX5_pour 5 = .ok (.aload_n 0, 1) := by decide +kernel
theorem dX5_pour_6 : decode cX5_pour 6 = .ok (.iload_n 1, 1) := by decide +kernel
theorem dX5_pour_7 : decode cX5_pour 7 = .ok (.iload_n 2, 1) := by decide +kernel
theorem dX5_pour_8 : decode cX5_pour 8 = .ok (.iload_n 3, 1) := by decide +kernel
theorem dX5_pour_9 : decode cX5_pour 9 = .ok (.invokevirtual 107, 3) := by decide +kernel
theorem dX5_pour_12 : decode cX5_pour 12 = .ok (.invokevirtual 98, 3) := by decide +kernel
theorem dX5_pour_15 : decode cX5_pour 15 = .ok (.ireturn, 1) := by decide +kernel
set_option maxRecDepth 20000 in
theorem ggX5_empty_X5_isPot : GoodIn wsX5_empty wsX5_isPot := goodIn_r _ [5, 6, 7, 4, 8] (by decide +kernel) (by decide +kernel)
set_option maxRecDepth 20000 in
theorem gX5_empty_X5_isPot : GoodIn wsX5_empty (va_wsS RX5 75 yX5_isPot wsX5_isPot) := goodIn_app (goodIn_of _ (by decide +kernel)) ggX5_empty_X5_isPot
set_option maxRecDepth 20000 in
theorem ggX5_empty_X5_hold : GoodIn wsX5_empty wsX5_hold := goodIn_r _ [12, 13, 1, 31, 32, 33, 34, 35, 36, 37, 38, 39, 40, 41, 42, 43] (by decide +kernel) (by decide +kernel)
set_option maxRecDepth 20000 in
theorem gX5_empty_X5_hold : GoodIn wsX5_empty (wsV RX5 95 RX5 yX5_hold wsX5_hold) := goodIn_app (goodIn_of _ (by decide +kernel)) ggX5_empty_X5_hold
set_option maxRecDepth 20000 in
theorem ggX5_empty_X5_p : GoodIn wsX5_empty wsX5_p := goodIn_r _ [16] (by decide +kernel) (by decide +kernel)
set_option maxRecDepth 20000 in
theorem gX5_empty_X5_p : GoodIn wsX5_empty (va_wsS RX5 72 yX5_p wsX5_p) := goodIn_app (goodIn_of _ (by decide +kernel)) ggX5_empty_X5_p
set_option maxRecDepth 20000 in
theorem ggX5_empty_X5_drops : GoodIn wsX5_empty wsX5_drops := goodIn_r _ [20, 1, 31, 32, 33, 34, 35, 36, 37, 38, 39, 40, 41, 42, 43] (by decide +kernel) (by decide +kernel)
set_option maxRecDepth 20000 in
theorem gX5_empty_X5_drops : GoodIn wsX5_empty (wsV RX5 47 RX5 yX5_drops wsX5_drops) := goodIn_app (goodIn_of _ (by decide +kernel)) ggX5_empty_X5_drops
set_option maxRecDepth 20000 in
theorem ggX5_empty_X5_clears : GoodIn wsX5_empty wsX5_clears := goodIn_r _ [24, 1, 31, 32, 33, 34, 35, 36, 37, 38, 39, 40, 41, 42, 43] (by decide +kernel) (by decide +kernel)
set_option maxRecDepth 20000 in
theorem gX5_empty_X5_clears : GoodIn wsX5_empty (wsV RX5 92 RX5 yX5_clears wsX5_clears) := goodIn_app (goodIn_of _ (by decide +kernel)) ggX5_empty_X5_clears
set_option maxRecDepth 20000 in
theorem ggX5_empty_X5_recorded : GoodIn wsX5_empty wsX5_recorded := goodIn_r _ [28, 29, 30, 13, 31, 32, 33, 34, 35, 36, 37, 38, 39, 40, 41, 42, 43] (by decide +kernel) (by decide +kernel)
set_option maxRecDepth 20000 in
theorem gX5_empty_X5_recorded : GoodIn wsX5_empty (wsV RX5 98 RX5 yX5_recorded wsX5_recorded) := goodIn_app (goodIn_of _ (by decide +kernel)) ggX5_empty_X5_recorded
theorem dX5_empty_0 : decode cX5_empty 0 = .ok (.iload_n 1, 1) := by decide +kernel
theorem dX5_empty_1 : decode cX5_empty 1 = .ok (.invokestatic 75, 3) := by decide +kernel
theorem dX5_empty_4 : decode cX5_empty 4 = .ok (.ifCond .ne 5, 3) := by decide +kernel
theorem dX5_empty_7 : decode cX5_empty 7 = .ok (.iconst (-1), 1) := by decide +kernel
theorem dX5_empty_8 : decode cX5_empty 8 = .ok (.ireturn, 1) := by decide +kernel
theorem dX5_empty_9 : decode cX5_empty 9 = .ok (.aload_n 0, 1) := by decide +kernel
theorem dX5_empty_10 : decode cX5_empty 10 = .ok (.invokevirtual 95, 3) := by decide +kernel
theorem dX5_empty_13 : decode cX5_empty 13 = .ok (.aload_n 0, 1) := by decide +kernel
theorem dX5_empty_14 : decode cX5_empty 14 = .ok (.iload_n 1, 1) := by decide +kernel
theorem dX5_empty_15 : decode cX5_empty 15 = .ok (.invokestatic 72, 3) := by decide +kernel
theorem dX5_empty_18 : decode cX5_empty 18 = .ok (.invokevirtual 47, 3) := by decide +kernel
theorem dX5_empty_21 : decode cX5_empty 21 = .ok (.istore_n 2, 1) := by decide +kernel
theorem dX5_empty_22 : decode cX5_empty 22 = .ok (.aload_n 0, 1) := by decide +kernel
theorem dX5_empty_23 : decode cX5_empty 23 = .ok (.iload_n 1, 1) := by decide +kernel
theorem dX5_empty_24 : decode cX5_empty 24 = .ok (.invokestatic 72, 3) := by decide +kernel
theorem dX5_empty_27 : decode cX5_empty 27 = .ok (.invokevirtual 92, 3) := by decide +kernel
theorem dX5_empty_30 : decode cX5_empty 30 = .ok (.aload_n 0, 1) := by decide +kernel
theorem dX5_empty_31 : decode cX5_empty 31 = .ok (.getfield 7, 3) := by decide +kernel
theorem dX5_empty_34 : decode cX5_empty 34 = .ok (.iconst 4, 1) := by decide +kernel
theorem dX5_empty_35 : decode cX5_empty 35 = .ok (.dup2, 1) := by decide +kernel
theorem dX5_empty_36 : decode cX5_empty 36 = .ok (.iaload, 1) := by decide +kernel
theorem dX5_empty_37 : decode cX5_empty 37 = .ok (.iload_n 2, 1) := by decide +kernel
theorem dX5_empty_38 : decode cX5_empty 38 = .ok (.iadd, 1) := by decide +kernel
theorem dX5_empty_39 : decode cX5_empty 39 = .ok (.iastore, 1) := by decide +kernel
theorem dX5_empty_40 : decode cX5_empty 40 = .ok (.aload_n 0, 1) := by decide +kernel
theorem dX5_empty_41 : decode cX5_empty 41 = .ok (.iload_n 2, 1) := by decide +kernel
theorem dX5_empty_42 : decode cX5_empty 42 = .ok (.invokevirtual 98, 3) := by decide +kernel
theorem dX5_empty_45 : decode cX5_empty 45 = .ok (.ireturn, 1) := by decide +kernel
set_option maxRecDepth 20000 in
theorem ggX5_dip_X5_hold : GoodIn wsX5_dip wsX5_hold := goodIn_r _ [5, 6, 7, 44, 45, 46, 47, 48, 49, 50, 51, 52, 53, 54, 55, 56] (by decide +kernel) (by decide +kernel)
set_option maxRecDepth 20000 in
theorem gX5_dip_X5_hold : GoodIn wsX5_dip (wsV RX5 95 RX5 yX5_hold wsX5_hold) := goodIn_app (goodIn_of _ (by decide +kernel)) ggX5_dip_X5_hold
set_option maxRecDepth 20000 in
theorem ggX5_dip_X5_dips : GoodIn wsX5_dip wsX5_dips := goodIn_r _ [11, 12, 13, 4, 14, 15, 16, 17, 18, 19, 20, 21, 22, 23, 24, 7, 25, 26, 27, 28, 29, 30, 31, 32, 33, 34, 35, 36, 37, 44, 45, 46, 47, 48, 49, 50, 51, 52, 53, 54, 55, 56] (by decide +kernel) (by decide +kernel)
set_option maxRecDepth 20000 in
theorem gX5_dip_X5_dips : GoodIn wsX5_dip (wsV RX5 110 RX5 yX5_dips wsX5_dips) := goodIn_app (goodIn_of _ (by decide +kernel)) ggX5_dip_X5_dips
set_option maxRecDepth 20000 in
theorem ggX5_dip_X5_recorded : GoodIn wsX5_dip wsX5_recorded := goodIn_r _ [41, 42, 43, 6, 44, 45, 46, 47, 48, 49, 50, 51, 52, 53, 54, 55, 56] (by decide +kernel) (by decide +kernel)
set_option maxRecDepth 20000 in
theorem gX5_dip_X5_recorded : GoodIn wsX5_dip (wsV RX5 98 RX5 yX5_recorded wsX5_recorded) := goodIn_app (goodIn_of _ (by decide +kernel)) ggX5_dip_X5_recorded
theorem dX5_dip_0 : decode cX5_dip 0 = .ok (.aload_n 0, 1) := by decide +kernel
theorem dX5_dip_1 : decode cX5_dip 1 = .ok (.invokevirtual 95, 3) := by decide +kernel
theorem dX5_dip_4 : decode cX5_dip 4 = .ok (.aload_n 0, 1) := by decide +kernel
theorem dX5_dip_5 : decode cX5_dip 5 = .ok (.aload_n 0, 1) := by decide +kernel
theorem dX5_dip_6 : decode cX5_dip 6 = .ok (.iload_n 1, 1) := by decide +kernel
theorem dX5_dip_7 : decode cX5_dip 7 = .ok (.iload_n 2, 1) := by decide +kernel
theorem dX5_dip_8 : decode cX5_dip 8 = .ok (.invokevirtual 110, 3) := by decide +kernel
theorem dX5_dip_11 : decode cX5_dip 11 = .ok (.invokevirtual 98, 3) := by decide +kernel
theorem dX5_dip_14 : decode cX5_dip 14 = .ok (.ireturn, 1) := by decide +kernel
set_option maxRecDepth 20000 in
theorem ggX5_paint_X5_hold : GoodIn wsX5_paint wsX5_hold := goodIn_r _ [5, 6, 7, 56, 57, 58, 59, 60, 61, 62, 63, 64, 65, 66, 67, 68] (by decide +kernel) (by decide +kernel)
set_option maxRecDepth 20000 in
theorem gX5_paint_X5_hold : GoodIn wsX5_paint (wsV RX5 95 RX5 yX5_hold wsX5_hold) := goodIn_app (goodIn_of _ (by decide +kernel)) ggX5_paint_X5_hold
set_option maxRecDepth 20000 in
theorem ggX5_paint_X5_paints : GoodIn wsX5_paint wsX5_paints := goodIn_r _ [11, 7, 12, 13, 14, 4, 15, 16, 17, 18, 19, 20, 21, 22, 23, 24, 25, 26, 27, 28, 29, 30, 31, 32, 33, 34, 35, 36, 37, 38, 39, 40, 41, 42, 43, 44, 45, 46, 47, 48, 49, 56, 57, 58, 59, 60, 61, 62, 63, 64, 65, 66, 67, 68] (by decide +kernel) (by decide +kernel)
set_option maxRecDepth 20000 in
theorem gX5_paint_X5_paints : GoodIn wsX5_paint (wsV RX5 113 RX5 yX5_paints wsX5_paints) := goodIn_app (goodIn_of _ (by decide +kernel)) ggX5_paint_X5_paints
set_option maxRecDepth 20000 in
theorem ggX5_paint_X5_recorded : GoodIn wsX5_paint wsX5_recorded := goodIn_r _ [53, 54, 55, 6, 56, 57, 58, 59, 60, 61, 62, 63, 64, 65, 66, 67, 68] (by decide +kernel) (by decide +kernel)
set_option maxRecDepth 20000 in
theorem gX5_paint_X5_recorded : GoodIn wsX5_paint (wsV RX5 98 RX5 yX5_recorded wsX5_recorded) := goodIn_app (goodIn_of _ (by decide +kernel)) ggX5_paint_X5_recorded
theorem dX5_paint_0 : decode cX5_paint 0 = .ok (.aload_n 0, 1) := by decide +kernel
theorem dX5_paint_1 : decode cX5_paint 1 = .ok (.invokevirtual 95, 3) := by decide +kernel
theorem dX5_paint_4 : decode cX5_paint 4 = .ok (.aload_n 0, 1) := by decide +kernel
theorem dX5_paint_5 : decode cX5_paint 5 = .ok (.aload_n 0, 1) := by decide +kernel
theorem dX5_paint_6 : decode cX5_paint 6 = .ok (.iload_n 1, 1) := by decide +kernel
theorem dX5_paint_7 : decode cX5_paint 7 = .ok (.invokevirtual 113, 3) := by decide +kernel
theorem dX5_paint_10 : decode cX5_paint 10 = .ok (.invokevirtual 98, 3) := by decide +kernel
theorem dX5_paint_13 : decode cX5_paint 13 = .ok (.ireturn, 1) := by decide +kernel
set_option maxRecDepth 20000 in
theorem ggX5_rinse_X5_hold : GoodIn wsX5_rinse wsX5_hold := goodIn_r _ [5, 6, 7, 26, 27, 28, 29, 30, 31, 32, 33, 34, 35, 36, 37, 38] (by decide +kernel) (by decide +kernel)
set_option maxRecDepth 20000 in
theorem gX5_rinse_X5_hold : GoodIn wsX5_rinse (wsV RX5 95 RX5 yX5_hold wsX5_hold) := goodIn_app (goodIn_of _ (by decide +kernel)) ggX5_rinse_X5_hold
set_option maxRecDepth 20000 in
theorem ggX5_rinse_X5_rinsesBrush : GoodIn wsX5_rinse wsX5_rinsesBrush := goodIn_r _ [11, 7, 12, 13, 14, 4, 15, 16, 17, 18, 19, 26, 27, 28, 29, 30, 31, 32, 33, 34, 35, 36, 37, 38] (by decide +kernel) (by decide +kernel)
set_option maxRecDepth 20000 in
theorem gX5_rinse_X5_rinsesBrush : GoodIn wsX5_rinse (wsV RX5 116 RX5 yX5_rinsesBrush wsX5_rinsesBrush) := goodIn_app (goodIn_of _ (by decide +kernel)) ggX5_rinse_X5_rinsesBrush
set_option maxRecDepth 20000 in
theorem ggX5_rinse_X5_recorded : GoodIn wsX5_rinse wsX5_recorded := goodIn_r _ [23, 24, 25, 6, 26, 27, 28, 29, 30, 31, 32, 33, 34, 35, 36, 37, 38] (by decide +kernel) (by decide +kernel)
set_option maxRecDepth 20000 in
theorem gX5_rinse_X5_recorded : GoodIn wsX5_rinse (wsV RX5 98 RX5 yX5_recorded wsX5_recorded) := goodIn_app (goodIn_of _ (by decide +kernel)) ggX5_rinse_X5_recorded
theorem dX5_rinse_0 : decode cX5_rinse 0 = .ok (.aload_n 0, 1) := by decide +kernel
theorem dX5_rinse_1 : decode cX5_rinse 1 = .ok (.invokevirtual 95, 3) := by decide +kernel
theorem dX5_rinse_4 : decode cX5_rinse 4 = .ok (.aload_n 0, 1) := by decide +kernel
theorem dX5_rinse_5 : decode cX5_rinse 5 = .ok (.aload_n 0, 1) := by decide +kernel
theorem dX5_rinse_6 : decode cX5_rinse 6 = .ok (.invokevirtual 116, 3) := by decide +kernel
theorem dX5_rinse_9 : decode cX5_rinse 9 = .ok (.invokevirtual 98, 3) := by decide +kernel
theorem dX5_rinse_12 : decode cX5_rinse 12 = .ok (.ireturn, 1) := by decide +kernel
set_option maxRecDepth 20000 in
theorem ggX5_want_X5_isPanel : GoodIn wsX5_want wsX5_isPanel := goodIn_r _ [5, 6, 7, 4, 8] (by decide +kernel) (by decide +kernel)
set_option maxRecDepth 20000 in
theorem gX5_want_X5_isPanel : GoodIn wsX5_want (va_wsS RX5 86 yX5_isPanel wsX5_isPanel) := goodIn_app (goodIn_of _ (by decide +kernel)) ggX5_want_X5_isPanel
set_option maxRecDepth 20000 in
theorem ggX5_want_X5_in : GoodIn wsX5_want wsX5_in := goodIn_r _ [8] (by decide +kernel) (by decide +kernel)
set_option maxRecDepth 20000 in
theorem gX5_want_X5_in : GoodIn wsX5_want (va_wsS RX5 39 yX5_in wsX5_in) := goodIn_app (goodIn_of _ (by decide +kernel)) ggX5_want_X5_in
set_option maxRecDepth 20000 in
theorem ggX5_want_X5_hold : GoodIn wsX5_want wsX5_hold := goodIn_r _ [12, 13, 1, 39, 40, 41, 42, 43, 44, 45, 46, 47, 48, 49, 50, 51] (by decide +kernel) (by decide +kernel)
set_option maxRecDepth 20000 in
theorem gX5_want_X5_hold : GoodIn wsX5_want (wsV RX5 95 RX5 yX5_hold wsX5_hold) := goodIn_app (goodIn_of _ (by decide +kernel)) ggX5_want_X5_hold
set_option maxRecDepth 20000 in
theorem ggX5_want_X5_n : GoodIn wsX5_want wsX5_n := goodIn_r _ [16] (by decide +kernel) (by decide +kernel)
set_option maxRecDepth 20000 in
theorem gX5_want_X5_n : GoodIn wsX5_want (va_wsS RX5 51 yX5_n wsX5_n) := goodIn_app (goodIn_of _ (by decide +kernel)) ggX5_want_X5_n
set_option maxRecDepth 20000 in
theorem ggX5_want_X5_well : GoodIn wsX5_want wsX5_well := goodIn_r _ [20, 21, 22, 23, 4, 24, 1, 25, 14, 15, 16, 26, 27, 28, 29, 30, 31, 32, 39, 40, 41, 42, 43, 44, 45, 46, 47, 48, 49, 50, 51] (by decide +kernel) (by decide +kernel)
set_option maxRecDepth 20000 in
theorem gX5_want_X5_well : GoodIn wsX5_want (wsV RX5 120 RX5 yX5_well wsX5_well) := goodIn_app (goodIn_of _ (by decide +kernel)) ggX5_want_X5_well
set_option maxRecDepth 20000 in
theorem ggX5_want_X5_recorded : GoodIn wsX5_want wsX5_recorded := goodIn_r _ [36, 37, 38, 13, 39, 40, 41, 42, 43, 44, 45, 46, 47, 48, 49, 50, 51] (by decide +kernel) (by decide +kernel)
set_option maxRecDepth 20000 in
theorem gX5_want_X5_recorded : GoodIn wsX5_want (wsV RX5 98 RX5 yX5_recorded wsX5_recorded) := goodIn_app (goodIn_of _ (by decide +kernel)) ggX5_want_X5_recorded
theorem dX5_want_0 : decode cX5_want 0 = .ok (.iload_n 1, 1) := by decide +kernel
theorem dX5_want_1 : decode cX5_want 1 = .ok (.invokestatic 86, 3) := by decide +kernel
theorem dX5_want_4 : decode cX5_want 4 = .ok (.ifCond .ne 5, 3) := by decide +kernel
theorem dX5_want_7 : decode cX5_want 7 = .ok (.iconst (-1), 1) := by decide +kernel
theorem dX5_want_8 : decode cX5_want 8 = .ok (.ireturn, 1) := by decide +kernel
theorem dX5_want_9 : decode cX5_want 9 = .ok (.iload_n 2, 1) := by decide +kernel
theorem dX5_want_10 : decode cX5_want 10 = .ok (.iconst 0, 1) := by decide +kernel
theorem dX5_want_11 : decode cX5_want 11 = .ok (.bipush 100, 2) := by decide +kernel
theorem dX5_want_13 : decode cX5_want 13 = .ok (.invokestatic 39, 3) := by decide +kernel
theorem dX5_want_16 : decode cX5_want 16 = .ok (.ifCond .eq 24, 3) := by decide +kernel
theorem dX5_want_19 : decode cX5_want 19 = .ok (.iload_n 3, 1) := by decide +kernel
theorem dX5_want_20 : decode cX5_want 20 = .ok (.iconst 0, 1) := by decide +kernel
theorem dX5_want_21 : decode cX5_want 21 = .ok (.bipush 100, 2) := by decide +kernel
theorem dX5_want_23 : decode cX5_want 23 = .ok (.invokestatic 39, 3) := by decide +kernel
theorem dX5_want_26 : decode cX5_want 26 = .ok (.ifCond .eq 14, 3) := by decide +kernel
theorem dX5_want_29 : decode cX5_want 29 = .ok (.iload 4, 2) := by decide +kernel
theorem dX5_want_31 : decode cX5_want 31 = .ok (.iconst 0, 1) := by decide +kernel
theorem dX5_want_32 : decode cX5_want 32 = .ok (.bipush 100, 2) := by decide +kernel
theorem dX5_want_34 : decode cX5_want 34 = .ok (.invokestatic 39, 3) := by decide +kernel
theorem dX5_want_37 : decode cX5_want 37 = .ok (.ifCond .ne 6, 3) := by decide +kernel
theorem dX5_want_40 : decode cX5_want 40 = .ok (.bipush (-2), 2) := by decide +kernel
theorem dX5_want_42 : decode cX5_want 42 = .ok (.ireturn, 1) := by decide +kernel
theorem dX5_want_43 : decode cX5_want 43 = .ok (.aload_n 0, 1) := by decide +kernel
theorem dX5_want_44 : decode cX5_want 44 = .ok (.invokevirtual 95, 3) := by decide +kernel
theorem dX5_want_47 : decode cX5_want 47 = .ok (.aload_n 0, 1) := by decide +kernel
theorem dX5_want_48 : decode cX5_want 48 = .ok (.getfield 7, 3) := by decide +kernel
theorem dX5_want_51 : decode cX5_want 51 = .ok (.iload_n 1, 1) := by decide +kernel
theorem dX5_want_52 : decode cX5_want 52 = .ok (.invokestatic 51, 3) := by decide +kernel
theorem dX5_want_55 : decode cX5_want 55 = .ok (.iload_n 2, 1) := by decide +kernel
theorem dX5_want_56 : decode cX5_want 56 = .ok (.iastore, 1) := by decide +kernel
theorem dX5_want_57 : decode cX5_want 57 = .ok (.aload_n 0, 1) := by decide +kernel
theorem dX5_want_58 : decode cX5_want 58 = .ok (.getfield 7, 3) := by decide +kernel
theorem dX5_want_61 : decode cX5_want 61 = .ok (.iload_n 1, 1) := by decide +kernel
theorem dX5_want_62 : decode cX5_want 62 = .ok (.invokestatic 51, 3) := by decide +kernel
theorem dX5_want_65 : decode cX5_want 65 = .ok (.iconst 1, 1) := by decide +kernel
theorem dX5_want_66 : decode cX5_want 66 = .ok (.iadd, 1) := by decide +kernel
theorem dX5_want_67 : decode cX5_want 67 = .ok (.iload_n 3, 1) := by decide +kernel
theorem dX5_want_68 : decode cX5_want 68 = .ok (.iastore, 1) := by decide +kernel
theorem dX5_want_69 : decode cX5_want 69 = .ok (.aload_n 0, 1) := by decide +kernel
theorem dX5_want_70 : decode cX5_want 70 = .ok (.getfield 7, 3) := by decide +kernel
theorem dX5_want_73 : decode cX5_want 73 = .ok (.iload_n 1, 1) := by decide +kernel
theorem dX5_want_74 : decode cX5_want 74 = .ok (.invokestatic 51, 3) := by decide +kernel
theorem dX5_want_77 : decode cX5_want 77 = .ok (.iconst 2, 1) := by decide +kernel
theorem dX5_want_78 : decode cX5_want 78 = .ok (.iadd, 1) := by decide +kernel
theorem dX5_want_79 : decode cX5_want 79 = .ok (.iload 4, 2) := by decide +kernel
theorem dX5_want_81 : decode cX5_want 81 = .ok (.iastore, 1) := by decide +kernel
theorem dX5_want_82 : decode cX5_want 82 = .ok (.aload_n 0, 1) := by decide +kernel
theorem dX5_want_83 : decode cX5_want 83 = .ok (.aload_n 0, 1) := by decide +kernel
theorem dX5_want_84 : decode cX5_want 84 = .ok (.invokevirtual 120, 3) := by decide +kernel
theorem dX5_want_87 : decode cX5_want 87 = .ok (.invokevirtual 98, 3) := by decide +kernel
theorem dX5_want_90 : decode cX5_want 90 = .ok (.ireturn, 1) := by decide +kernel
theorem dX5_isSign_0 : decode cX5_isSign 0 = .ok (.aload_n 0, 1) := by decide +kernel
theorem dX5_isSign_1 : decode cX5_isSign 1 = .ok (.getfield 123, 3) := by decide +kernel
theorem dX5_isSign_4 : decode cX5_isSign 4 = .ok (.aload_n 0, 1) := by decide +kernel
theorem dX5_isSign_5 : decode cX5_isSign 5 = .ok (.getfield 126, 3) := by decide +kernel
theorem dX5_isSign_8 : decode cX5_isSign 8 = .ok (.if_icmp .ge 33, 3) := by decide +kernel
theorem dX5_isSign_11 : decode cX5_isSign 11 = .ok (.aload_n 0, 1) := by decide +kernel
theorem dX5_isSign_12 : decode cX5_isSign 12 = .ok (.getfield 35, 3) := by decide +kernel
theorem dX5_isSign_15 : decode cX5_isSign 15 = .ok (.aload_n 0, 1) := by decide +kernel
theorem dX5_isSign_16 : decode cX5_isSign 16 = .ok (.getfield 123, 3) := by decide +kernel
theorem dX5_isSign_19 : decode cX5_isSign 19 = .ok (.caload, 1) := by decide +kernel
theorem dX5_isSign_20 : decode cX5_isSign 20 = .ok (.iload_n 1, 1) := by decide +kernel
theorem dX5_isSign_21 : decode cX5_isSign 21 = .ok (.if_icmp .lt 20, 3) := by decide +kernel
theorem dX5_isSign_24 : decode cX5_isSign 24 = .ok (.aload_n 0, 1) := by decide +kernel
theorem dX5_isSign_25 : decode cX5_isSign 25 = .ok (.getfield 35, 3) := by decide +kernel
theorem dX5_isSign_28 : decode cX5_isSign 28 = .ok (.aload_n 0, 1) := by decide +kernel
theorem dX5_isSign_29 : decode cX5_isSign 29 = .ok (.getfield 123, 3) := by decide +kernel
theorem dX5_isSign_32 : decode cX5_isSign 32 = .ok (.caload, 1) := by decide +kernel
theorem dX5_isSign_33 : decode cX5_isSign 33 = .ok (.iload_n 2, 1) := by decide +kernel
theorem dX5_isSign_34 : decode cX5_isSign 34 = .ok (.if_icmp .gt 7, 3) := by decide +kernel
theorem dX5_isSign_37 : decode cX5_isSign 37 = .ok (.iconst 1, 1) := by decide +kernel
theorem dX5_isSign_38 : decode cX5_isSign 38 = .ok (.goto 4, 3) := by decide +kernel
theorem dX5_isSign_41 : decode cX5_isSign 41 = .ok (.iconst 0, 1) := by decide +kernel
theorem dX5_isSign_42 : decode cX5_isSign 42 = .ok (.ireturn, 1) := by decide +kernel
set_option maxRecDepth 20000 in
theorem ggX5_accepts_X5_isSign : GoodIn wsX5_accepts wsX5_isSign := goodIn_r _ [6, 1, 7, 8, 9, 10, 11, 12, 13, 14, 15, 16, 17, 18, 19, 20, 21] (by decide +kernel) (by decide +kernel)
set_option maxRecDepth 20000 in
theorem gX5_accepts_X5_isSign : GoodIn wsX5_accepts (wsV RX5 129 RX5 yX5_isSign wsX5_isSign) := goodIn_app (goodIn_of _ (by decide +kernel)) ggX5_accepts_X5_isSign
theorem dX5_accepts_0 : decode cX5_accepts 0 = .ok (.aload_n 0, 1) := by decide +kernel
theorem dX5_accepts_1 : decode cX5_accepts 1 = .ok (.iload_n 1, 1) := by decide +kernel
theorem dX5_accepts_2 : decode cX5_accepts 2 = .ok (.iload_n 1, 1) := by decide +kernel
theorem dX5_accepts_3 : decode cX5_accepts 3 = .ok (.invokevirtual 129, 3) := by decide +kernel
theorem dX5_accepts_6 : decode cX5_accepts 6 = .ok (.istore_n 2, 1) := by decide +kernel
theorem dX5_accepts_7 : decode cX5_accepts 7 = .ok (.aload_n 0, 1) := by decide +kernel
theorem dX5_accepts_8 : decode cX5_accepts 8 = .ok (.dup, 1) := by decide +kernel
theorem dX5_accepts_9 : decode cX5_accepts 9 = .ok (.getfield 123, 3) := by decide +kernel
theorem dX5_accepts_12 : decode cX5_accepts 12 = .ok (.iload_n 2, 1) := by decide +kernel
theorem dX5_accepts_13 : decode cX5_accepts 13 = .ok (.ifCond .eq 7, 3) := by decide +kernel
theorem dX5_accepts_16 : decode cX5_accepts 16 = .ok (.iconst 1, 1) := by decide +kernel
theorem dX5_accepts_17 : decode cX5_accepts 17 = .ok (.goto 4, 3) := by decide +kernel
theorem dX5_accepts_20 : decode cX5_accepts 20 = .ok (.iconst 0, 1) := by decide +kernel
theorem dX5_accepts_21 : decode cX5_accepts 21 = .ok (.iadd, 1) := by decide +kernel
theorem dX5_accepts_22 : decode cX5_accepts 22 = .ok (.putfield 123, 3) := by decide +kernel
theorem dX5_accepts_25 : decode cX5_accepts 25 = .ok (.iload_n 2, 1) := by decide +kernel
theorem dX5_accepts_26 : decode cX5_accepts 26 = .ok (.ireturn, 1) := by decide +kernel
set_option maxRecDepth 20000 in
theorem ggX5_digit_X5_isSign : GoodIn wsX5_digit wsX5_isSign := goodIn_r _ [9, 4, 10, 3, 11, 12, 13, 14, 15, 16, 17, 18, 19, 20, 21, 22, 23] (by decide +kernel) (by decide +kernel)
set_option maxRecDepth 20000 in
theorem gX5_digit_X5_isSign : GoodIn wsX5_digit (wsV RX5 129 RX5 yX5_isSign wsX5_isSign) := goodIn_app (goodIn_of _ (by decide +kernel)) ggX5_digit_X5_isSign
theorem dX5_digit_0 : decode cX5_digit 0 = .ok (.aload_n 0, 1) := by decide +kernel
theorem dX5_digit_1 : decode cX5_digit 1 = .ok (.iload_n 2, 1) := by decide +kernel
theorem dX5_digit_2 : decode cX5_digit 2 = .ok (.iload_n 3, 1) := by decide +kernel
theorem dX5_digit_3 : decode cX5_digit 3 = .ok (.invokevirtual 129, 3) := by decide +kernel
theorem dX5_digit_6 : decode cX5_digit 6 = .ok (.istore 4, 2) := by decide +kernel
theorem dX5_digit_8 : decode cX5_digit 8 = .ok (.aload_n 0, 1) := by decide +kernel
theorem dX5_digit_9 : decode cX5_digit 9 = .ok (.getfield 32, 3) := by decide +kernel
theorem dX5_digit_12 : decode cX5_digit 12 = .ok (.bipush 6, 2) := by decide +kernel
theorem dX5_digit_14 : decode cX5_digit 14 = .ok (.aload_n 0, 1) := by decide +kernel
theorem dX5_digit_15 : decode cX5_digit 15 = .ok (.getfield 133, 3) := by decide +kernel
theorem dX5_digit_18 : decode cX5_digit 18 = .ok (.imul, 1) := by decide +kernel
theorem dX5_digit_19 : decode cX5_digit 19 = .ok (.iload_n 1, 1) := by decide +kernel
theorem dX5_digit_20 : decode cX5_digit 20 = .ok (.iadd, 1) := by decide +kernel
theorem dX5_digit_21 : decode cX5_digit 21 = .ok (.iload 4, 2) := by decide +kernel
theorem dX5_digit_23 : decode cX5_digit 23 = .ok (.ifCond .eq 18, 3) := by decide +kernel
theorem dX5_digit_26 : decode cX5_digit 26 = .ok (.aload_n 0, 1) := by decide +kernel
theorem dX5_digit_27 : decode cX5_digit 27 = .ok (.getfield 35, 3) := by decide +kernel
theorem dX5_digit_30 : decode cX5_digit 30 = .ok (.aload_n 0, 1) := by decide +kernel
theorem dX5_digit_31 : decode cX5_digit 31 = .ok (.getfield 123, 3) := by decide +kernel
theorem dX5_digit_34 : decode cX5_digit 34 = .ok (.caload, 1) := by decide +kernel
theorem dX5_digit_35 : decode cX5_digit 35 = .ok (.bipush 48, 2) := by decide +kernel
theorem dX5_digit_37 : decode cX5_digit 37 = .ok (.isub, 1) := by decide +kernel
theorem dX5_digit_38 : decode cX5_digit 38 = .ok (.goto 4, 3) := by decide +kernel
theorem dX5_digit_41 : decode cX5_digit 41 = .ok (.iconst 0, 1) := by decide +kernel
theorem dX5_digit_42 : decode cX5_digit 42 = .ok (.iastore, 1) := by decide +kernel
theorem dX5_digit_43 : decode cX5_digit 43 = .ok (.aload_n 0, 1) := by decide +kernel
theorem dX5_digit_44 : decode cX5_digit 44 = .ok (.dup, 1) := by decide +kernel
theorem dX5_digit_45 : decode cX5_digit 45 = .ok (.getfield 123, 3) := by decide +kernel
theorem dX5_digit_48 : decode cX5_digit 48 = .ok (.iload 4, 2) := by decide +kernel
theorem dX5_digit_50 : decode cX5_digit 50 = .ok (.ifCond .eq 7, 3) := by decide +kernel
theorem dX5_digit_53 : decode cX5_digit 53 = .ok (.iconst 1, 1) := by decide +kernel
theorem dX5_digit_54 : decode cX5_digit 54 = .ok (.goto 4, 3) := by decide +kernel
theorem dX5_digit_57 : decode cX5_digit 57 = .ok (.iconst 0, 1) := by decide +kernel
theorem dX5_digit_58 : decode cX5_digit 58 = .ok (.iadd, 1) := by decide +kernel
theorem dX5_digit_59 : decode cX5_digit 59 = .ok (.putfield 123, 3) := by decide +kernel
theorem dX5_digit_62 : decode cX5_digit 62 = .ok (.iload 4, 2) := by decide +kernel
theorem dX5_digit_64 : decode cX5_digit 64 = .ok (.ireturn, 1) := by decide +kernel
set_option maxRecDepth 20000 in
theorem ggX5_number_X5_digit : GoodIn wsX5_number wsX5_digit := goodIn_r _ [9, 1, 2, 3, 4, 10, 11, 12, 8, 13, 14, 15, 16, 17, 18, 19, 20, 21, 22, 23, 24, 25, 26, 27] (by decide +kernel) (by decide +kernel)
set_option maxRecDepth 20000 in
theorem gX5_number_X5_digit : GoodIn wsX5_number (wsV RX5 136 RX5 yX5_digit wsX5_digit) := goodIn_app (goodIn_of _ (by decide +kernel)) ggX5_number_X5_digit
set_option maxRecDepth 20000 in
theorem ggX5_number_X5_isSign : GoodIn wsX5_number wsX5_isSign := goodIn_r _ [13, 4, 14, 3, 15, 16, 17, 18, 19, 20, 21, 22, 23, 24, 25, 26, 27] (by decide +kernel) (by decide +kernel)
set_option maxRecDepth 20000 in
theorem gX5_number_X5_isSign : GoodIn wsX5_number (wsV RX5 129 RX5 yX5_isSign wsX5_isSign) := goodIn_app (goodIn_of _ (by decide +kernel)) ggX5_number_X5_isSign
theorem dX5_number_0 : decode cX5_number 0 = .ok (.aload_n 0, 1) := by decide +kernel
theorem dX5_number_1 : decode cX5_number 1 = .ok (.iload_n 1, 1) := by decide +kernel
theorem dX5_number_2 : decode cX5_number 2 = .ok (.bipush 49, 2) := by decide +kernel
theorem dX5_number_4 : decode cX5_number 4 = .ok (.bipush 57, 2) := by decide +kernel
theorem dX5_number_6 : decode cX5_number 6 = .ok (.invokevirtual 136, 3) := by decide +kernel
theorem dX5_number_9 : decode cX5_number 9 = .ok (.ifCond .ne 5, 3) := by decide +kernel
theorem dX5_number_12 : decode cX5_number 12 = .ok (.iconst 0, 1) := by decide +kernel
theorem dX5_number_13 : decode cX5_number 13 = .ok (.ireturn, 1) := by decide +kernel
theorem dX5_number_14 : decode cX5_number 14 = .ok (.aload_n 0, 1) := by decide +kernel
theorem dX5_number_15 : decode cX5_number 15 = .ok (.getfield 32, 3) := by decide +kernel
theorem dX5_number_18 : decode cX5_number 18 = .ok (.bipush 6, 2) := by decide +kernel
theorem dX5_number_20 : decode cX5_number 20 = .ok (.aload_n 0, 1) := by decide +kernel
theorem dX5_number_21 : decode cX5_number 21 = .ok (.getfield 133, 3) := by decide +kernel
theorem dX5_number_24 : decode cX5_number 24 = .ok (.imul, 1) := by decide +kernel
theorem dX5_number_25 : decode cX5_number 25 = .ok (.iload_n 1, 1) := by decide +kernel
theorem dX5_number_26 : decode cX5_number 26 = .ok (.iadd, 1) := by decide +kernel
theorem dX5_number_27 : decode cX5_number 27 = .ok (.iaload, 1) := by decide +kernel
theorem dX5_number_28 : decode cX5_number 28 = .ok (.istore_n 2, 1) := by decide +kernel
theorem dX5_number_29 : decode cX5_number 29 = .ok (.aload_n 0, 1) := by decide +kernel
theorem dX5_number_30 : decode cX5_number 30 = .ok (.bipush 48, 2) := by decide +kernel
theorem dX5_number_32 : decode cX5_number 32 = .ok (.bipush 57, 2) := by decide +kernel
theorem dX5_number_34 : decode cX5_number 34 = .ok (.invokevirtual 129, 3) := by decide +kernel
theorem dX5_number_37 : decode cX5_number 37 = .ok (.ifCond .eq 66, 3) := by decide +kernel
theorem dX5_number_40 : decode cX5_number 40 = .ok (.bipush 10, 2) := by decide +kernel
theorem dX5_number_42 : decode cX5_number 42 = .ok (.iload_n 2, 1) := by decide +kernel
theorem dX5_number_43 : decode cX5_number 43 = .ok (.imul, 1) := by decide +kernel
theorem dX5_number_44 : decode cX5_number 44 = .ok (.aload_n 0, 1) := by decide +kernel
theorem dX5_number_45 : decode cX5_number 45 = .ok (.getfield 35, 3) := by decide +kernel
theorem dX5_number_48 : decode cX5_number 48 = .ok (.aload_n 0, 1) := by decide +kernel
theorem dX5_number_49 : decode cX5_number 49 = .ok (.getfield 123, 3) := by decide +kernel
theorem dX5_number_52 : decode cX5_number 52 = .ok (.caload, 1) := by decide +kernel
theorem dX5_number_53 : decode cX5_number 53 = .ok (.iadd, 1) := by decide +kernel
theorem dX5_number_54 : decode cX5_number 54 = .ok (.bipush 48, 2) := by decide +kernel
theorem dX5_number_56 : decode cX5_number 56 = .ok (.isub, 1) := by decide +kernel
theorem dX5_number_57 : decode cX5_number 57 = .ok (.bipush 81, 2) := by decide +kernel
theorem dX5_number_59 : decode cX5_number 59 = .ok (.if_icmp .gt 44, 3) := by decide +kernel
theorem dX5_number_62 : decode cX5_number 62 = .ok (.aload_n 0, 1) := by decide +kernel
theorem dX5_number_63 : decode cX5_number 63 = .ok (.getfield 32, 3) := by decide +kernel
theorem dX5_number_66 : decode cX5_number 66 = .ok (.bipush 6, 2) := by decide +kernel
theorem dX5_number_68 : decode cX5_number 68 = .ok (.aload_n 0, 1) := by decide +kernel
theorem dX5_number_69 : decode cX5_number 69 = .ok (.getfield 133, 3) := by decide +kernel
theorem dX5_number_72 : decode cX5_number 72 = .ok (.imul, 1) := by decide +kernel
theorem dX5_number_73 : decode cX5_number 73 = .ok (.iload_n 1, 1) := by decide +kernel
theorem dX5_number_74 : decode cX5_number 74 = .ok (.iadd, 1) := by decide +kernel
theorem dX5_number_75 : decode cX5_number 75 = .ok (.bipush 10, 2) := by decide +kernel
theorem dX5_number_77 : decode cX5_number 77 = .ok (.iload_n 2, 1) := by decide +kernel
theorem dX5_number_78 : decode cX5_number 78 = .ok (.imul, 1) := by decide +kernel
theorem dX5_number_79 : decode cX5_number 79 = .ok (.aload_n 0, 1) := by decide +kernel
theorem dX5_number_80 : decode cX5_number 80 = .ok (.getfield 35, 3) := by decide +kernel
theorem dX5_number_83 : decode cX5_number 83 = .ok (.aload_n 0, 1) := by decide +kernel
theorem dX5_number_84 : decode cX5_number 84 = .ok (.getfield 123, 3) := by decide +kernel
theorem dX5_number_87 : decode cX5_number 87 = .ok (.caload, 1) := by decide +kernel
theorem dX5_number_88 : decode cX5_number 88 = .ok (.iadd, 1) := by decide +kernel
theorem dX5_number_89 : decode cX5_number 89 = .ok (.bipush 48, 2) := by decide +kernel
theorem dX5_number_91 : decode cX5_number 91 = .ok (.isub, 1) := by decide +kernel
theorem dX5_number_92 : decode cX5_number 92 = .ok (.iastore, 1) := by decide +kernel
theorem dX5_number_93 : decode cX5_number 93 = .ok (.aload_n 0, 1) := by decide +kernel
theorem dX5_number_94 : decode cX5_number 94 = .ok (.dup, 1) := by decide +kernel
theorem dX5_number_95 : decode cX5_number 95 = .ok (.getfield 123, 3) := by decide +kernel
theorem dX5_number_98 : decode cX5_number 98 = .ok (.iconst 1, 1) := by decide +kernel
theorem dX5_number_99 : decode cX5_number 99 = .ok (.iadd, 1) := by decide +kernel
theorem dX5_number_100 : decode cX5_number 100 = .ok (.putfield 123, 3) := by decide +kernel
theorem dX5_number_103 : decode cX5_number 103 = .ok (.iconst 1, 1) := by decide +kernel
theorem dX5_number_104 : decode cX5_number 104 = .ok (.ireturn, 1) := by decide +kernel
set_option maxRecDepth 20000 in
theorem ggX5_kind_X5_accepts : GoodIn wsX5_kind wsX5_accepts := goodIn_r _ [6, 1, 7, 8, 9, 5, 10, 11, 12, 13, 14, 15, 16, 17, 18, 19, 20, 21, 22, 23, 24, 25] (by decide +kernel) (by decide +kernel)
set_option maxRecDepth 20000 in
theorem gX5_kind_X5_accepts : GoodIn wsX5_kind (wsV RX5 140 RX5 yX5_accepts wsX5_accepts) := goodIn_app (goodIn_of _ (by decide +kernel)) ggX5_kind_X5_accepts
theorem dX5_kind_0 : decode cX5_kind 0 = .ok (.aload_n 0, 1) := by decide +kernel
theorem dX5_kind_1 : decode cX5_kind 1 = .ok (.bipush 114, 2) := by decide +kernel
theorem dX5_kind_3 : decode cX5_kind 3 = .ok (.invokevirtual 140, 3) := by decide +kernel
theorem dX5_kind_6 : decode cX5_kind 6 = .ok (.ifCond .eq 7, 3) := by decide +kernel
theorem dX5_kind_9 : decode cX5_kind 9 = .ok (.iconst 0, 1) := by decide +kernel
theorem dX5_kind_10 : decode cX5_kind 10 = .ok (.goto 44, 3) := by decide +kernel
theorem dX5_kind_13 : decode cX5_kind 13 = .ok (.aload_n 0, 1) := by decide +kernel
theorem dX5_kind_14 : decode cX5_kind 14 = .ok (.bipush 121, 2) := by decide +kernel
theorem dX5_kind_16 : decode cX5_kind 16 = .ok (.invokevirtual 140, 3) := by decide +kernel
theorem dX5_kind_19 : decode cX5_kind 19 = .ok (.ifCond .eq 7, 3) := by decide +kernel
theorem dX5_kind_22 : decode cX5_kind 22 = .ok (.iconst 1, 1) := by decide +kernel
theorem dX5_kind_23 : decode cX5_kind 23 = .ok (.goto 31, 3) := by decide +kernel
theorem dX5_kind_26 : decode cX5_kind 26 = .ok (.aload_n 0, 1) := by decide +kernel
theorem dX5_kind_27 : decode cX5_kind 27 = .ok (.bipush 98, 2) := by decide +kernel
theorem dX5_kind_29 : decode cX5_kind 29 = .ok (.invokevirtual 140, 3) := by decide +kernel
theorem dX5_kind_32 : decode cX5_kind 32 = .ok (.ifCond .eq 7, 3) := by decide +kernel
theorem dX5_kind_35 : decode cX5_kind 35 = .ok (.iconst 2, 1) := by decide +kernel
theorem dX5_kind_36 : decode cX5_kind 36 = .ok (.goto 18, 3) := by decide +kernel
theorem dX5_kind_39 : decode cX5_kind 39 = .ok (.aload_n 0, 1) := by decide +kernel
theorem dX5_kind_40 : decode cX5_kind 40 = .ok (.bipush 116, 2) := by decide +kernel
theorem dX5_kind_42 : decode cX5_kind 42 = .ok (.invokevirtual 140, 3) := by decide +kernel
theorem dX5_kind_45 : decode cX5_kind 45 = .ok (.ifCond .eq 7, 3) := by decide +kernel
theorem dX5_kind_48 : decode cX5_kind 48 = .ok (.iconst 3, 1) := by decide +kernel
theorem dX5_kind_49 : decode cX5_kind 49 = .ok (.goto 5, 3) := by decide +kernel
theorem dX5_kind_52 : decode cX5_kind 52 = .ok (.bipush (-6), 2) := by decide +kernel
theorem dX5_kind_54 : decode cX5_kind 54 = .ok (.istore_n 2, 1) := by decide +kernel
theorem dX5_kind_55 : decode cX5_kind 55 = .ok (.aload_n 0, 1) := by decide +kernel
theorem dX5_kind_56 : decode cX5_kind 56 = .ok (.dup, 1) := by decide +kernel
theorem dX5_kind_57 : decode cX5_kind 57 = .ok (.getfield 123, 3) := by decide +kernel
theorem dX5_kind_60 : decode cX5_kind 60 = .ok (.iload_n 2, 1) := by decide +kernel
theorem dX5_kind_61 : decode cX5_kind 61 = .ok (.bipush (-6), 2) := by decide +kernel
theorem dX5_kind_63 : decode cX5_kind 63 = .ok (.if_icmp .eq 12, 3) := by decide +kernel
theorem dX5_kind_66 : decode cX5_kind 66 = .ok (.iload_n 2, 1) := by decide +kernel
theorem dX5_kind_67 : decode cX5_kind 67 = .ok (.iload_n 1, 1) := by decide +kernel
theorem dX5_kind_68 : decode cX5_kind 68 = .ok (.if_icmp .gt 7, 3) := by decide +kernel
theorem dX5_kind_71 : decode cX5_kind 71 = .ok (.iconst 1, 1) := by decide +kernel
theorem dX5_kind_72 : decode cX5_kind 72 = .ok (.goto 4, 3) := by decide +kernel
theorem dX5_kind_75 : decode cX5_kind 75 = .ok (.iconst 0, 1) := by decide +kernel
theorem dX5_kind_76 : decode cX5_kind 76 = .ok (.isub, 1) := by decide +kernel
theorem dX5_kind_77 : decode cX5_kind 77 = .ok (.putfield 123, 3) := by decide +kernel
theorem dX5_kind_80 : decode cX5_kind 80 = .ok (.iload_n 2, 1) := by decide +kernel
theorem dX5_kind_81 : decode cX5_kind 81 = .ok (.iload_n 1, 1) := by decide +kernel
theorem dX5_kind_82 : decode cX5_kind 82 = .ok (.if_icmp .gt 8, 3) := by decide +kernel
theorem dX5_kind_85 : decode cX5_kind 85 = .ok (.bipush (-6), 2) := by decide +kernel
theorem dX5_kind_87 : decode cX5_kind 87 = .ok (.goto 4, 3) := by decide +kernel
theorem dX5_kind_90 : decode cX5_kind 90 = .ok (.iload_n 2, 1) := by decide +kernel
theorem dX5_kind_91 : decode cX5_kind 91 = .ok (.ireturn, 1) := by decide +kernel
set_option maxRecDepth 20000 in
theorem ggX5_filling_X5_isSign : GoodIn wsX5_filling wsX5_isSign := goodIn_r _ [7, 8, 9, 10, 27, 28, 29, 30, 31, 32, 33, 34, 35, 36, 37, 38, 39] (by decide +kernel) (by decide +kernel)
set_option maxRecDepth 20000 in
theorem gX5_filling_X5_isSign : GoodIn wsX5_filling (wsV RX5 129 RX5 yX5_isSign wsX5_isSign) := goodIn_app (goodIn_of _ (by decide +kernel)) ggX5_filling_X5_isSign
set_option maxRecDepth 20000 in
theorem ggX5_filling_X5_number : GoodIn wsX5_filling wsX5_number := goodIn_r _ [14, 2, 1, 10, 8, 15, 16, 17, 6, 18, 3, 4, 5, 7, 9, 27, 28, 29, 30, 31, 32, 33, 34, 35, 36, 37, 38, 39] (by decide +kernel) (by decide +kernel)
set_option maxRecDepth 20000 in
theorem gX5_filling_X5_number : GoodIn wsX5_filling (wsV RX5 144 RX5 yX5_number wsX5_number) := goodIn_app (goodIn_of _ (by decide +kernel)) ggX5_filling_X5_number
set_option maxRecDepth 20000 in
theorem ggX5_filling_X5_kind : GoodIn wsX5_filling wsX5_kind := goodIn_r _ [22, 8, 23, 24, 25, 6, 26, 3, 4, 5, 7, 9, 10, 27, 28, 29, 30, 31, 32, 33, 34, 35, 36, 37, 38, 39] (by decide +kernel) (by decide +kernel)
set_option maxRecDepth 20000 in
theorem gX5_filling_X5_kind : GoodIn wsX5_filling (wsV RX5 147 RX5 yX5_kind wsX5_kind) := goodIn_app (goodIn_of _ (by decide +kernel)) ggX5_filling_X5_kind
theorem dX5_filling_0 : decode cX5_filling 0 = .ok (.bipush 6, 2) := by decide +kernel
theorem dX5_filling_2 : decode cX5_filling 2 = .ok (.aload_n 0, 1) := by decide +kernel
theorem dX5_filling_3 : decode cX5_filling 3 = .ok (.getfield 133, 3) := by decide +kernel
theorem dX5_filling_6 : decode cX5_filling 6 = .ok (.imul, 1) := by decide +kernel
theorem dX5_filling_7 : decode cX5_filling 7 = .ok (.istore_n 1, 1) := by decide +kernel
theorem dX5_filling_8 : decode cX5_filling 8 = .ok (.iconst 0, 1) := by decide +kernel
theorem dX5_filling_9 : decode cX5_filling 9 = .ok (.istore_n 2, 1) := by decide +kernel
theorem dX5_filling_10 : decode cX5_filling 10 = .ok (.iload_n 2, 1) := by decide +kernel
theorem dX5_filling_11 : decode cX5_filling 11 = .ok (.iconst 4, 1) := by decide +kernel
theorem dX5_filling_12 : decode cX5_filling 12 = .ok (.if_icmp .ge 20, 3) := by decide +kernel
theorem dX5_filling_15 : decode cX5_filling 15 = .ok (.aload_n 0, 1) := by decide +kernel
theorem dX5_filling_16 : decode cX5_filling 16 = .ok (.getfield 32, 3) := by decide +kernel
theorem dX5_filling_19 : decode cX5_filling 19 = .ok (.iload_n 1, 1) := by decide +kernel
theorem dX5_filling_20 : decode cX5_filling 20 = .ok (.iconst 2, 1) := by decide +kernel
theorem dX5_filling_21 : decode cX5_filling 21 = .ok (.iadd, 1) := by decide +kernel
theorem dX5_filling_22 : decode cX5_filling 22 = .ok (.iload_n 2, 1) := by decide +kernel
theorem dX5_filling_23 : decode cX5_filling 23 = .ok (.iadd, 1) := by decide +kernel
theorem dX5_filling_24 : decode cX5_filling 24 = .ok (.iconst 0, 1) := by decide +kernel
theorem dX5_filling_25 : decode cX5_filling 25 = .ok (.iastore, 1) := by decide +kernel
theorem dX5_filling_26 : decode cX5_filling 26 = .ok (.iinc 2 1, 3) := by decide +kernel
theorem dX5_filling_29 : decode cX5_filling 29 = .ok (.goto (-19), 3) := by decide +kernel
theorem dX5_filling_32 : decode cX5_filling 32 = .ok (.iconst (-1), 1) := by decide +kernel
theorem dX5_filling_33 : decode cX5_filling 33 = .ok (.istore_n 2, 1) := by decide +kernel
theorem dX5_filling_34 : decode cX5_filling 34 = .ok (.iconst 1, 1) := by decide +kernel
theorem dX5_filling_35 : decode cX5_filling 35 = .ok (.istore_n 3, 1) := by decide +kernel
theorem dX5_filling_36 : decode cX5_filling 36 = .ok (.iload_n 3, 1) := by decide +kernel
theorem dX5_filling_37 : decode cX5_filling 37 = .ok (.ifCond .eq 89, 3) := by decide +kernel
theorem dX5_filling_40 : decode cX5_filling 40 = .ok (.iload_n 2, 1) := by decide +kernel
theorem dX5_filling_41 : decode cX5_filling 41 = .ok (.ifCond .lt 19, 3) := by decide +kernel
theorem dX5_filling_44 : decode cX5_filling 44 = .ok (.iload_n 2, 1) := by decide +kernel
theorem dX5_filling_45 : decode cX5_filling 45 = .ok (.iconst 3, 1) := by decide +kernel
theorem dX5_filling_46 : decode cX5_filling 46 = .ok (.if_icmp .ge 80, 3) := by decide +kernel
theorem dX5_filling_49 : decode cX5_filling 49 = .ok (.aload_n 0, 1) := by decide +kernel
theorem dX5_filling_50 : decode cX5_filling 50 = .ok (.bipush 48, 2) := by decide +kernel
theorem dX5_filling_52 : decode cX5_filling 52 = .ok (.bipush 57, 2) := by decide +kernel
theorem dX5_filling_54 : decode cX5_filling 54 = .ok (.invokevirtual 129, 3) := by decide +kernel
theorem dX5_filling_57 : decode cX5_filling 57 = .ok (.ifCond .eq 69, 3) := by decide +kernel
theorem dX5_filling_60 : decode cX5_filling 60 = .ok (.aload_n 0, 1) := by decide +kernel
theorem dX5_filling_61 : decode cX5_filling 61 = .ok (.iconst 0, 1) := by decide +kernel
theorem dX5_filling_62 : decode cX5_filling 62 = .ok (.invokevirtual 144, 3) := by decide +kernel
theorem dX5_filling_65 : decode cX5_filling 65 = .ok (.istore_n 3, 1) := by decide +kernel
theorem dX5_filling_66 : decode cX5_filling 66 = .ok (.aload_n 0, 1) := by decide +kernel
theorem dX5_filling_67 : decode cX5_filling 67 = .ok (.getfield 32, 3) := by decide +kernel
theorem dX5_filling_70 : decode cX5_filling 70 = .ok (.iload_n 1, 1) := by decide +kernel
theorem dX5_filling_71 : decode cX5_filling 71 = .ok (.iaload, 1) := by decide +kernel
theorem dX5_filling_72 : decode cX5_filling 72 = .ok (.istore 4, 2) := by decide +kernel
theorem dX5_filling_74 : decode cX5_filling 74 = .ok (.iload_n 3, 1) := by decide +kernel
theorem dX5_filling_75 : decode cX5_filling 75 = .ok (.ifCond .eq 11, 3) := by decide +kernel
theorem dX5_filling_78 : decode cX5_filling 78 = .ok (.aload_n 0, 1) := by decide +kernel
theorem dX5_filling_79 : decode cX5_filling 79 = .ok (.iload_n 2, 1) := by decide +kernel
theorem dX5_filling_80 : decode cX5_filling 80 = .ok (.invokevirtual 147, 3) := by decide +kernel
theorem dX5_filling_83 : decode cX5_filling 83 = .ok (.goto 5, 3) := by decide +kernel
theorem dX5_filling_86 : decode cX5_filling 86 = .ok (.bipush (-6), 2) := by decide +kernel
theorem dX5_filling_88 : decode cX5_filling 88 = .ok (.istore 5, 2) := by decide +kernel
theorem dX5_filling_90 : decode cX5_filling 90 = .ok (.iload 5, 2) := by decide +kernel
theorem dX5_filling_92 : decode cX5_filling 92 = .ok (.bipush (-6), 2) := by decide +kernel
theorem dX5_filling_94 : decode cX5_filling 94 = .ok (.if_icmp .eq 7, 3) := by decide +kernel
theorem dX5_filling_97 : decode cX5_filling 97 = .ok (.iconst 1, 1) := by decide +kernel
theorem dX5_filling_98 : decode cX5_filling 98 = .ok (.goto 4, 3) := by decide +kernel
theorem dX5_filling_101 : decode cX5_filling 101 = .ok (.iconst 0, 1) := by decide +kernel
theorem dX5_filling_102 : decode cX5_filling 102 = .ok (.istore_n 3, 1) := by decide +kernel
theorem dX5_filling_103 : decode cX5_filling 103 = .ok (.iload_n 3, 1) := by decide +kernel
theorem dX5_filling_104 : decode cX5_filling 104 = .ok (.ifCond .eq 19, 3) := by decide +kernel
theorem dX5_filling_107 : decode cX5_filling 107 = .ok (.aload_n 0, 1) := by decide +kernel
theorem dX5_filling_108 : decode cX5_filling 108 = .ok (.getfield 32, 3) := by decide +kernel
theorem dX5_filling_111 : decode cX5_filling 111 = .ok (.iload_n 1, 1) := by decide +kernel
theorem dX5_filling_112 : decode cX5_filling 112 = .ok (.iconst 2, 1) := by decide +kernel
theorem dX5_filling_113 : decode cX5_filling 113 = .ok (.iadd, 1) := by decide +kernel
theorem dX5_filling_114 : decode cX5_filling 114 = .ok (.iload 5, 2) := by decide +kernel
theorem dX5_filling_116 : decode cX5_filling 116 = .ok (.iadd, 1) := by decide +kernel
theorem dX5_filling_117 : decode cX5_filling 117 = .ok (.iload 4, 2) := by decide +kernel
theorem dX5_filling_119 : decode cX5_filling 119 = .ok (.iastore, 1) := by decide +kernel
theorem dX5_filling_120 : decode cX5_filling 120 = .ok (.iload 5, 2) := by decide +kernel
theorem dX5_filling_122 : decode cX5_filling 122 = .ok (.istore_n 2, 1) := by decide +kernel
theorem dX5_filling_123 : decode cX5_filling 123 = .ok (.goto (-87), 3) := by decide +kernel
theorem dX5_filling_126 : decode cX5_filling 126 = .ok (.aload_n 0, 1) := by decide +kernel
theorem dX5_filling_127 : decode cX5_filling 127 = .ok (.getfield 32, 3) := by decide +kernel
theorem dX5_filling_130 : decode cX5_filling 130 = .ok (.iload_n 1, 1) := by decide +kernel
theorem dX5_filling_131 : decode cX5_filling 131 = .ok (.bipush 43, 2) := by decide +kernel
theorem dX5_filling_133 : decode cX5_filling 133 = .ok (.iastore, 1) := by decide +kernel
theorem dX5_filling_134 : decode cX5_filling 134 = .ok (.iload_n 3, 1) := by decide +kernel
theorem dX5_filling_135 : decode cX5_filling 135 = .ok (.ireturn, 1) := by decide +kernel
set_option maxRecDepth 20000 in
theorem ggX5_ofPot_X5_accepts : GoodIn wsX5_ofPot wsX5_accepts := goodIn_r _ [7, 8, 9, 10, 11, 6, 12, 13, 14, 31, 32, 33, 34, 35, 36, 37, 38, 39, 40, 41, 42, 43] (by decide +kernel) (by decide +kernel)
set_option maxRecDepth 20000 in
theorem gX5_ofPot_X5_accepts : GoodIn wsX5_ofPot (wsV RX5 140 RX5 yX5_accepts wsX5_accepts) := goodIn_app (goodIn_of _ (by decide +kernel)) ggX5_ofPot_X5_accepts
set_option maxRecDepth 20000 in
theorem ggX5_ofPot_X5_filling : GoodIn wsX5_ofPot wsX5_filling := goodIn_r _ [18, 1, 2, 9, 10, 11, 6, 12, 8, 13, 14, 19, 20, 21, 22, 23, 24, 25, 26, 27, 28, 29, 30, 3, 4, 5, 7, 31, 32, 33, 34, 35, 36, 37, 38, 39, 40, 41, 42, 43] (by decide +kernel) (by decide +kernel)
set_option maxRecDepth 20000 in
theorem gX5_ofPot_X5_filling : GoodIn wsX5_ofPot (wsV RX5 150 RX5 yX5_filling wsX5_filling) := goodIn_app (goodIn_of _ (by decide +kernel)) ggX5_ofPot_X5_filling
set_option maxRecDepth 20000 in
theorem ggX5_ofPot_X5_digit : GoodIn wsX5_ofPot wsX5_digit := goodIn_r _ [26, 2, 1, 14, 8, 9, 10, 11, 6, 12, 13, 31, 32, 33, 34, 35, 36, 37, 38, 39, 40, 41, 42, 43] (by decide +kernel) (by decide +kernel)
set_option maxRecDepth 20000 in
theorem gX5_ofPot_X5_digit : GoodIn wsX5_ofPot (wsV RX5 136 RX5 yX5_digit wsX5_digit) := goodIn_app (goodIn_of _ (by decide +kernel)) ggX5_ofPot_X5_digit
set_option maxRecDepth 20000 in
theorem ggX5_ofPot_X5_number : GoodIn wsX5_ofPot wsX5_number := goodIn_r _ [22, 2, 1, 14, 8, 23, 24, 25, 6, 26, 9, 10, 11, 12, 13, 31, 32, 33, 34, 35, 36, 37, 38, 39, 40, 41, 42, 43] (by decide +kernel) (by decide +kernel)
set_option maxRecDepth 20000 in
theorem gX5_ofPot_X5_number : GoodIn wsX5_ofPot (wsV RX5 144 RX5 yX5_number wsX5_number) := goodIn_app (goodIn_of _ (by decide +kernel)) ggX5_ofPot_X5_number
theorem dX5_ofPot_0 : decode cX5_ofPot 0 = .ok (.bipush 6, 2) := by decide +kernel
theorem dX5_ofPot_2 : decode cX5_ofPot 2 = .ok (.aload_n 0, 1) := by decide +kernel
theorem dX5_ofPot_3 : decode cX5_ofPot 3 = .ok (.getfield 133, 3) := by decide +kernel
theorem dX5_ofPot_6 : decode cX5_ofPot 6 = .ok (.imul, 1) := by decide +kernel
theorem dX5_ofPot_7 : decode cX5_ofPot 7 = .ok (.istore_n 1, 1) := by decide +kernel
theorem dX5_ofPot_8 : decode cX5_ofPot 8 = .ok (.aload_n 0, 1) := by decide +kernel
theorem dX5_ofPot_9 : decode cX5_ofPot 9 = .ok (.bipush 43, 2) := by decide +kernel
theorem dX5_ofPot_11 : decode cX5_ofPot 11 = .ok (.invokevirtual 140, 3) := by decide +kernel
theorem dX5_ofPot_14 : decode cX5_ofPot 14 = .ok (.ifCond .eq 8, 3) := by decide +kernel
theorem dX5_ofPot_17 : decode cX5_ofPot 17 = .ok (.aload_n 0, 1) := by decide +kernel
theorem dX5_ofPot_18 : decode cX5_ofPot 18 = .ok (.invokevirtual 150, 3) := by decide +kernel
theorem dX5_ofPot_21 : decode cX5_ofPot 21 = .ok (.ireturn, 1) := by decide +kernel
theorem dX5_ofPot_22 : decode cX5_ofPot 22 = .ok (.aload_n 0, 1) := by decide +kernel
theorem dX5_ofPot_23 : decode cX5_ofPot 23 = .ok (.bipush 33, 2) := by decide +kernel
theorem dX5_ofPot_25 : decode cX5_ofPot 25 = .ok (.invokevirtual 140, 3) := by decide +kernel
theorem dX5_ofPot_28 : decode cX5_ofPot 28 = .ok (.ifCond .eq 13, 3) := by decide +kernel
theorem dX5_ofPot_31 : decode cX5_ofPot 31 = .ok (.aload_n 0, 1) := by decide +kernel
theorem dX5_ofPot_32 : decode cX5_ofPot 32 = .ok (.getfield 32, 3) := by decide +kernel
theorem dX5_ofPot_35 : decode cX5_ofPot 35 = .ok (.iload_n 1, 1) := by decide +kernel
theorem dX5_ofPot_36 : decode cX5_ofPot 36 = .ok (.bipush 33, 2) := by decide +kernel
theorem dX5_ofPot_38 : decode cX5_ofPot 38 = .ok (.iastore, 1) := by decide +kernel
theorem dX5_ofPot_39 : decode cX5_ofPot 39 = .ok (.iconst 1, 1) := by decide +kernel
theorem dX5_ofPot_40 : decode cX5_ofPot 40 = .ok (.ireturn, 1) := by decide +kernel
theorem dX5_ofPot_41 : decode cX5_ofPot 41 = .ok (.aload_n 0, 1) := by decide +kernel
theorem dX5_ofPot_42 : decode cX5_ofPot 42 = .ok (.bipush 62, 2) := by decide +kernel
theorem dX5_ofPot_44 : decode cX5_ofPot 44 = .ok (.invokevirtual 140, 3) := by decide +kernel
theorem dX5_ofPot_47 : decode cX5_ofPot 47 = .ok (.ifCond .eq 36, 3) := by decide +kernel
theorem dX5_ofPot_50 : decode cX5_ofPot 50 = .ok (.aload_n 0, 1) := by decide +kernel
theorem dX5_ofPot_51 : decode cX5_ofPot 51 = .ok (.iconst 2, 1) := by decide +kernel
theorem dX5_ofPot_52 : decode cX5_ofPot 52 = .ok (.bipush 48, 2) := by decide +kernel
theorem dX5_ofPot_54 : decode cX5_ofPot 54 = .ok (.bipush 55, 2) := by decide +kernel
theorem dX5_ofPot_56 : decode cX5_ofPot 56 = .ok (.invokevirtual 136, 3) := by decide +kernel
theorem dX5_ofPot_59 : decode cX5_ofPot 59 = .ok (.ifCond .eq 24, 3) := by decide +kernel
theorem dX5_ofPot_62 : decode cX5_ofPot 62 = .ok (.aload_n 0, 1) := by decide +kernel
theorem dX5_ofPot_63 : decode cX5_ofPot 63 = .ok (.bipush 58, 2) := by decide +kernel
theorem dX5_ofPot_65 : decode cX5_ofPot 65 = .ok (.invokevirtual 140, 3) := by decide +kernel
theorem dX5_ofPot_68 : decode cX5_ofPot 68 = .ok (.ifCond .eq 15, 3) := by decide +kernel
theorem dX5_ofPot_71 : decode cX5_ofPot 71 = .ok (.aload_n 0, 1) := by decide +kernel
theorem dX5_ofPot_72 : decode cX5_ofPot 72 = .ok (.iconst 3, 1) := by decide +kernel
theorem dX5_ofPot_73 : decode cX5_ofPot 73 = .ok (.invokevirtual 144, 3) := by decide +kernel
theorem dX5_ofPot_76 : decode cX5_ofPot 76 = .ok (.ifCond .eq 7, 3) := by decide +kernel
theorem dX5_ofPot_79 : decode cX5_ofPot 79 = .ok (.iconst 1, 1) := by decide +kernel
theorem dX5_ofPot_80 : decode cX5_ofPot 80 = .ok (.goto 4, 3) := by decide +kernel
theorem dX5_ofPot_83 : decode cX5_ofPot 83 = .ok (.iconst 0, 1) := by decide +kernel
theorem dX5_ofPot_84 : decode cX5_ofPot 84 = .ok (.istore_n 2, 1) := by decide +kernel
theorem dX5_ofPot_85 : decode cX5_ofPot 85 = .ok (.aload_n 0, 1) := by decide +kernel
theorem dX5_ofPot_86 : decode cX5_ofPot 86 = .ok (.getfield 32, 3) := by decide +kernel
theorem dX5_ofPot_89 : decode cX5_ofPot 89 = .ok (.iload_n 1, 1) := by decide +kernel
theorem dX5_ofPot_90 : decode cX5_ofPot 90 = .ok (.bipush 62, 2) := by decide +kernel
theorem dX5_ofPot_92 : decode cX5_ofPot 92 = .ok (.iastore, 1) := by decide +kernel
theorem dX5_ofPot_93 : decode cX5_ofPot 93 = .ok (.iload_n 2, 1) := by decide +kernel
theorem dX5_ofPot_94 : decode cX5_ofPot 94 = .ok (.ireturn, 1) := by decide +kernel
set_option maxRecDepth 20000 in
theorem ggX5_readsWork_X5_accepts : GoodIn wsX5_readsWork wsX5_accepts := goodIn_r _ [7, 8, 9, 10, 11, 6, 12, 13, 14, 35, 36, 37, 38, 39, 40, 41, 42, 43, 44, 45, 46, 47] (by decide +kernel) (by decide +kernel)
set_option maxRecDepth 20000 in
theorem gX5_readsWork_X5_accepts : GoodIn wsX5_readsWork (wsV RX5 140 RX5 yX5_accepts wsX5_accepts) := goodIn_app (goodIn_of _ (by decide +kernel)) ggX5_readsWork_X5_accepts
set_option maxRecDepth 20000 in
theorem ggX5_readsWork_X5_digit : GoodIn wsX5_readsWork wsX5_digit := goodIn_r _ [18, 2, 1, 14, 8, 9, 10, 11, 6, 12, 13, 35, 36, 37, 38, 39, 40, 41, 42, 43, 44, 45, 46, 47] (by decide +kernel) (by decide +kernel)
set_option maxRecDepth 20000 in
theorem gX5_readsWork_X5_digit : GoodIn wsX5_readsWork (wsV RX5 136 RX5 yX5_digit wsX5_digit) := goodIn_app (goodIn_of _ (by decide +kernel)) ggX5_readsWork_X5_digit
set_option maxRecDepth 20000 in
theorem ggX5_readsWork_X5_ofPot : GoodIn wsX5_readsWork wsX5_ofPot := goodIn_r _ [22, 1, 2, 3, 4, 5, 6, 7, 8, 9, 10, 11, 12, 13, 14, 23, 24, 25, 26, 27, 28, 29, 30, 15, 16, 17, 18, 31, 32, 33, 34, 35, 36, 37, 38, 39, 40, 41, 42, 43, 44, 45, 46, 47] (by decide +kernel) (by decide +kernel)
set_option maxRecDepth 20000 in
theorem gX5_readsWork_X5_ofPot : GoodIn wsX5_readsWork (wsV RX5 154 RX5 yX5_ofPot wsX5_ofPot) := goodIn_app (goodIn_of _ (by decide +kernel)) ggX5_readsWork_X5_ofPot
theorem dX5_readsWork_0 : decode cX5_readsWork 0 = .ok (.bipush 6, 2) := by decide +kernel
theorem dX5_readsWork_2 : decode cX5_readsWork 2 = .ok (.aload_n 0, 1) := by decide +kernel
theorem dX5_readsWork_3 : decode cX5_readsWork 3 = .ok (.getfield 133, 3) := by decide +kernel
theorem dX5_readsWork_6 : decode cX5_readsWork 6 = .ok (.imul, 1) := by decide +kernel
theorem dX5_readsWork_7 : decode cX5_readsWork 7 = .ok (.istore_n 1, 1) := by decide +kernel
theorem dX5_readsWork_8 : decode cX5_readsWork 8 = .ok (.aload_n 0, 1) := by decide +kernel
theorem dX5_readsWork_9 : decode cX5_readsWork 9 = .ok (.bipush 100, 2) := by decide +kernel
theorem dX5_readsWork_11 : decode cX5_readsWork 11 = .ok (.invokevirtual 140, 3) := by decide +kernel
theorem dX5_readsWork_14 : decode cX5_readsWork 14 = .ok (.ifCond .eq 53, 3) := by decide +kernel
theorem dX5_readsWork_17 : decode cX5_readsWork 17 = .ok (.aload_n 0, 1) := by decide +kernel
theorem dX5_readsWork_18 : decode cX5_readsWork 18 = .ok (.iconst 1, 1) := by decide +kernel
theorem dX5_readsWork_19 : decode cX5_readsWork 19 = .ok (.bipush 48, 2) := by decide +kernel
theorem dX5_readsWork_21 : decode cX5_readsWork 21 = .ok (.bipush 55, 2) := by decide +kernel
theorem dX5_readsWork_23 : decode cX5_readsWork 23 = .ok (.invokevirtual 136, 3) := by decide +kernel
theorem dX5_readsWork_26 : decode cX5_readsWork 26 = .ok (.ifCond .eq 28, 3) := by decide +kernel
theorem dX5_readsWork_29 : decode cX5_readsWork 29 = .ok (.aload_n 0, 1) := by decide +kernel
theorem dX5_readsWork_30 : decode cX5_readsWork 30 = .ok (.bipush 58, 2) := by decide +kernel
theorem dX5_readsWork_32 : decode cX5_readsWork 32 = .ok (.invokevirtual 140, 3) := by decide +kernel
theorem dX5_readsWork_35 : decode cX5_readsWork 35 = .ok (.ifCond .eq 19, 3) := by decide +kernel
theorem dX5_readsWork_38 : decode cX5_readsWork 38 = .ok (.aload_n 0, 1) := by decide +kernel
theorem dX5_readsWork_39 : decode cX5_readsWork 39 = .ok (.iconst 2, 1) := by decide +kernel
theorem dX5_readsWork_40 : decode cX5_readsWork 40 = .ok (.bipush 49, 2) := by decide +kernel
theorem dX5_readsWork_42 : decode cX5_readsWork 42 = .ok (.bipush 57, 2) := by decide +kernel
theorem dX5_readsWork_44 : decode cX5_readsWork 44 = .ok (.invokevirtual 136, 3) := by decide +kernel
theorem dX5_readsWork_47 : decode cX5_readsWork 47 = .ok (.ifCond .eq 7, 3) := by decide +kernel
theorem dX5_readsWork_50 : decode cX5_readsWork 50 = .ok (.iconst 1, 1) := by decide +kernel
theorem dX5_readsWork_51 : decode cX5_readsWork 51 = .ok (.goto 4, 3) := by decide +kernel
theorem dX5_readsWork_54 : decode cX5_readsWork 54 = .ok (.iconst 0, 1) := by decide +kernel
theorem dX5_readsWork_55 : decode cX5_readsWork 55 = .ok (.istore_n 2, 1) := by decide +kernel
theorem dX5_readsWork_56 : decode cX5_readsWork 56 = .ok (.aload_n 0, 1) := by decide +kernel
theorem dX5_readsWork_57 : decode cX5_readsWork 57 = .ok (.getfield 32, 3) := by decide +kernel
theorem dX5_readsWork_60 : decode cX5_readsWork 60 = .ok (.iload_n 1, 1) := by decide +kernel
theorem dX5_readsWork_61 : decode cX5_readsWork 61 = .ok (.bipush 100, 2) := by decide +kernel
theorem dX5_readsWork_63 : decode cX5_readsWork 63 = .ok (.iastore, 1) := by decide +kernel
theorem dX5_readsWork_64 : decode cX5_readsWork 64 = .ok (.goto 80, 3) := by decide +kernel
theorem dX5_readsWork_67 : decode cX5_readsWork 67 = .ok (.aload_n 0, 1) := by decide +kernel
theorem dX5_readsWork_68 : decode cX5_readsWork 68 = .ok (.bipush 112, 2) := by decide +kernel
theorem dX5_readsWork_70 : decode cX5_readsWork 70 = .ok (.invokevirtual 140, 3) := by decide +kernel
theorem dX5_readsWork_73 : decode cX5_readsWork 73 = .ok (.ifCond .eq 24, 3) := by decide +kernel
theorem dX5_readsWork_76 : decode cX5_readsWork 76 = .ok (.aload_n 0, 1) := by decide +kernel
theorem dX5_readsWork_77 : decode cX5_readsWork 77 = .ok (.iconst 1, 1) := by decide +kernel
theorem dX5_readsWork_78 : decode cX5_readsWork 78 = .ok (.bipush 48, 2) := by decide +kernel
theorem dX5_readsWork_80 : decode cX5_readsWork 80 = .ok (.bipush 53, 2) := by decide +kernel
theorem dX5_readsWork_82 : decode cX5_readsWork 82 = .ok (.invokevirtual 136, 3) := by decide +kernel
theorem dX5_readsWork_85 : decode cX5_readsWork 85 = .ok (.istore_n 2, 1) := by decide +kernel
theorem dX5_readsWork_86 : decode cX5_readsWork 86 = .ok (.aload_n 0, 1) := by decide +kernel
theorem dX5_readsWork_87 : decode cX5_readsWork 87 = .ok (.getfield 32, 3) := by decide +kernel
theorem dX5_readsWork_90 : decode cX5_readsWork 90 = .ok (.iload_n 1, 1) := by decide +kernel
theorem dX5_readsWork_91 : decode cX5_readsWork 91 = .ok (.bipush 112, 2) := by decide +kernel
theorem dX5_readsWork_93 : decode cX5_readsWork 93 = .ok (.iastore, 1) := by decide +kernel
theorem dX5_readsWork_94 : decode cX5_readsWork 94 = .ok (.goto 50, 3) := by decide +kernel
theorem dX5_readsWork_97 : decode cX5_readsWork 97 = .ok (.aload_n 0, 1) := by decide +kernel
theorem dX5_readsWork_98 : decode cX5_readsWork 98 = .ok (.bipush 114, 2) := by decide +kernel
theorem dX5_readsWork_100 : decode cX5_readsWork 100 = .ok (.invokevirtual 140, 3) := by decide +kernel
theorem dX5_readsWork_103 : decode cX5_readsWork 103 = .ok (.ifCond .eq 16, 3) := by decide +kernel
theorem dX5_readsWork_106 : decode cX5_readsWork 106 = .ok (.iconst 1, 1) := by decide +kernel
theorem dX5_readsWork_107 : decode cX5_readsWork 107 = .ok (.istore_n 2, 1) := by decide +kernel
theorem dX5_readsWork_108 : decode cX5_readsWork 108 = .ok (.aload_n 0, 1) := by decide +kernel
theorem dX5_readsWork_109 : decode cX5_readsWork 109 = .ok (.getfield 32, 3) := by decide +kernel
theorem dX5_readsWork_112 : decode cX5_readsWork 112 = .ok (.iload_n 1, 1) := by decide +kernel
theorem dX5_readsWork_113 : decode cX5_readsWork 113 = .ok (.bipush 114, 2) := by decide +kernel
theorem dX5_readsWork_115 : decode cX5_readsWork 115 = .ok (.iastore, 1) := by decide +kernel
theorem dX5_readsWork_116 : decode cX5_readsWork 116 = .ok (.goto 28, 3) := by decide +kernel
theorem dX5_readsWork_119 : decode cX5_readsWork 119 = .ok (.aload_n 0, 1) := by decide +kernel
theorem dX5_readsWork_120 : decode cX5_readsWork 120 = .ok (.iconst 1, 1) := by decide +kernel
theorem dX5_readsWork_121 : decode cX5_readsWork 121 = .ok (.bipush 48, 2) := by decide +kernel
theorem dX5_readsWork_123 : decode cX5_readsWork 123 = .ok (.bipush 55, 2) := by decide +kernel
theorem dX5_readsWork_125 : decode cX5_readsWork 125 = .ok (.invokevirtual 136, 3) := by decide +kernel
theorem dX5_readsWork_128 : decode cX5_readsWork 128 = .ok (.ifCond .eq 14, 3) := by decide +kernel
theorem dX5_readsWork_131 : decode cX5_readsWork 131 = .ok (.aload_n 0, 1) := by decide +kernel
theorem dX5_readsWork_132 : decode cX5_readsWork 132 = .ok (.invokevirtual 154, 3) := by decide +kernel
theorem dX5_readsWork_135 : decode cX5_readsWork 135 = .ok (.ifCond .eq 7, 3) := by decide +kernel
theorem dX5_readsWork_138 : decode cX5_readsWork 138 = .ok (.iconst 1, 1) := by decide +kernel
theorem dX5_readsWork_139 : decode cX5_readsWork 139 = .ok (.goto 4, 3) := by decide +kernel
theorem dX5_readsWork_142 : decode cX5_readsWork 142 = .ok (.iconst 0, 1) := by decide +kernel
theorem dX5_readsWork_143 : decode cX5_readsWork 143 = .ok (.istore_n 2, 1) := by decide +kernel
theorem dX5_readsWork_144 : decode cX5_readsWork 144 = .ok (.aload_n 0, 1) := by decide +kernel
theorem dX5_readsWork_145 : decode cX5_readsWork 145 = .ok (.dup, 1) := by decide +kernel
theorem dX5_readsWork_146 : decode cX5_readsWork 146 = .ok (.getfield 133, 3) := by decide +kernel
theorem dX5_readsWork_149 : decode cX5_readsWork 149 = .ok (.iload_n 2, 1) := by decide +kernel
theorem dX5_readsWork_150 : decode cX5_readsWork 150 = .ok (.ifCond .eq 7, 3) := by decide +kernel
theorem dX5_readsWork_153 : decode cX5_readsWork 153 = .ok (.iconst 1, 1) := by decide +kernel
theorem dX5_readsWork_154 : decode cX5_readsWork 154 = .ok (.goto 4, 3) := by decide +kernel
theorem dX5_readsWork_157 : decode cX5_readsWork 157 = .ok (.iconst 0, 1) := by decide +kernel
theorem dX5_readsWork_158 : decode cX5_readsWork 158 = .ok (.iadd, 1) := by decide +kernel
theorem dX5_readsWork_159 : decode cX5_readsWork 159 = .ok (.putfield 133, 3) := by decide +kernel
theorem dX5_readsWork_162 : decode cX5_readsWork 162 = .ok (.iload_n 2, 1) := by decide +kernel
theorem dX5_readsWork_163 : decode cX5_readsWork 163 = .ok (.ireturn, 1) := by decide +kernel
set_option maxRecDepth 20000 in
theorem ggX5_faultOf_X5_readsWork : GoodIn wsX5_faultOf wsX5_readsWork := goodIn_r _ [8, 2, 9, 10, 11, 12, 7, 13, 1, 14, 15, 16, 17, 3, 18, 19, 20, 21, 22, 23, 24, 25, 26, 27, 28, 29, 30, 31, 32, 33, 34, 35, 36, 37, 38, 39, 40, 41, 42, 43, 44, 45, 46, 47, 48, 49, 50, 51] (by decide +kernel) (by decide +kernel)
set_option maxRecDepth 20000 in
theorem gX5_faultOf_X5_readsWork : GoodIn wsX5_faultOf (wsV RX5 157 RX5 yX5_readsWork wsX5_readsWork) := goodIn_app (goodIn_of _ (by decide +kernel)) ggX5_faultOf_X5_readsWork
set_option maxRecDepth 20000 in
theorem ggX5_faultOf_X5_accepts : GoodIn wsX5_faultOf wsX5_accepts := goodIn_r _ [13, 1, 14, 15, 16, 7, 17, 3, 18, 39, 40, 41, 42, 43, 44, 45, 46, 47, 48, 49, 50, 51] (by decide +kernel) (by decide +kernel)
set_option maxRecDepth 20000 in
theorem gX5_faultOf_X5_accepts : GoodIn wsX5_faultOf (wsV RX5 140 RX5 yX5_accepts wsX5_accepts) := goodIn_app (goodIn_of _ (by decide +kernel)) ggX5_faultOf_X5_accepts
theorem dX5_faultOf_0 : decode cX5_faultOf 0 = .ok (.aload_n 0, 1) := by decide +kernel
theorem dX5_faultOf_1 : decode cX5_faultOf 1 = .ok (.iconst 0, 1) := by decide +kernel
theorem dX5_faultOf_2 : decode cX5_faultOf 2 = .ok (.putfield 123, 3) := by decide +kernel
theorem dX5_faultOf_5 : decode cX5_faultOf 5 = .ok (.aload_n 0, 1) := by decide +kernel
theorem dX5_faultOf_6 : decode cX5_faultOf 6 = .ok (.iconst 0, 1) := by decide +kernel
theorem dX5_faultOf_7 : decode cX5_faultOf 7 = .ok (.putfield 133, 3) := by decide +kernel
theorem dX5_faultOf_10 : decode cX5_faultOf 10 = .ok (.aload_n 0, 1) := by decide +kernel
theorem dX5_faultOf_11 : decode cX5_faultOf 11 = .ok (.invokevirtual 157, 3) := by decide +kernel
theorem dX5_faultOf_14 : decode cX5_faultOf 14 = .ok (.istore_n 1, 1) := by decide +kernel
theorem dX5_faultOf_15 : decode cX5_faultOf 15 = .ok (.iload_n 1, 1) := by decide +kernel
theorem dX5_faultOf_16 : decode cX5_faultOf 16 = .ok (.ifCond .eq 39, 3) := by decide +kernel
theorem dX5_faultOf_19 : decode cX5_faultOf 19 = .ok (.aload_n 0, 1) := by decide +kernel
theorem dX5_faultOf_20 : decode cX5_faultOf 20 = .ok (.getfield 123, 3) := by decide +kernel
theorem dX5_faultOf_23 : decode cX5_faultOf 23 = .ok (.aload_n 0, 1) := by decide +kernel
theorem dX5_faultOf_24 : decode cX5_faultOf 24 = .ok (.getfield 126, 3) := by decide +kernel
theorem dX5_faultOf_27 : decode cX5_faultOf 27 = .ok (.if_icmp .ge 28, 3) := by decide +kernel
theorem dX5_faultOf_30 : decode cX5_faultOf 30 = .ok (.aload_n 0, 1) := by decide +kernel
theorem dX5_faultOf_31 : decode cX5_faultOf 31 = .ok (.bipush 59, 2) := by decide +kernel
theorem dX5_faultOf_33 : decode cX5_faultOf 33 = .ok (.invokevirtual 140, 3) := by decide +kernel
theorem dX5_faultOf_36 : decode cX5_faultOf 36 = .ok (.ifCond .eq 14, 3) := by decide +kernel
theorem dX5_faultOf_39 : decode cX5_faultOf 39 = .ok (.aload_n 0, 1) := by decide +kernel
theorem dX5_faultOf_40 : decode cX5_faultOf 40 = .ok (.invokevirtual 157, 3) := by decide +kernel
theorem dX5_faultOf_43 : decode cX5_faultOf 43 = .ok (.ifCond .eq 7, 3) := by decide +kernel
theorem dX5_faultOf_46 : decode cX5_faultOf 46 = .ok (.iconst 1, 1) := by decide +kernel
theorem dX5_faultOf_47 : decode cX5_faultOf 47 = .ok (.goto 4, 3) := by decide +kernel
theorem dX5_faultOf_50 : decode cX5_faultOf 50 = .ok (.iconst 0, 1) := by decide +kernel
theorem dX5_faultOf_51 : decode cX5_faultOf 51 = .ok (.istore_n 1, 1) := by decide +kernel
theorem dX5_faultOf_52 : decode cX5_faultOf 52 = .ok (.goto (-37), 3) := by decide +kernel
theorem dX5_faultOf_55 : decode cX5_faultOf 55 = .ok (.iload_n 1, 1) := by decide +kernel
theorem dX5_faultOf_56 : decode cX5_faultOf 56 = .ok (.ifCond .eq 7, 3) := by decide +kernel
theorem dX5_faultOf_59 : decode cX5_faultOf 59 = .ok (.iconst (-1), 1) := by decide +kernel
theorem dX5_faultOf_60 : decode cX5_faultOf 60 = .ok (.goto 7, 3) := by decide +kernel
theorem dX5_faultOf_63 : decode cX5_faultOf 63 = .ok (.aload_n 0, 1) := by decide +kernel
theorem dX5_faultOf_64 : decode cX5_faultOf 64 = .ok (.getfield 123, 3) := by decide +kernel
theorem dX5_faultOf_67 : decode cX5_faultOf 67 = .ok (.ireturn, 1) := by decide +kernel
set_option maxRecDepth 20000 in
theorem ggX5_does_X5_fills : GoodIn wsX5_does wsX5_fills := goodIn_r _ [6, 7, 8, 9, 5, 10, 11, 12, 13, 14, 15, 16, 17, 18, 19, 20, 80, 81, 82, 83, 84, 85, 86, 87, 88, 89, 90, 91, 92] (by decide +kernel) (by decide +kernel)
set_option maxRecDepth 20000 in
theorem gX5_does_X5_fills : GoodIn wsX5_does (wsV RX5 101 RX5 yX5_fills wsX5_fills) := goodIn_app (goodIn_of _ (by decide +kernel)) ggX5_does_X5_fills
set_option maxRecDepth 20000 in
theorem ggX5_does_X5_thins : GoodIn wsX5_does wsX5_thins := goodIn_r _ [24, 7, 8, 9, 5, 10, 11, 12, 13, 14, 15, 16, 17, 18, 19, 20, 80, 81, 82, 83, 84, 85, 86, 87, 88, 89, 90, 91, 92] (by decide +kernel) (by decide +kernel)
set_option maxRecDepth 20000 in
theorem gX5_does_X5_thins : GoodIn wsX5_does (wsV RX5 104 RX5 yX5_thins wsX5_thins) := goodIn_app (goodIn_of _ (by decide +kernel)) ggX5_does_X5_thins
set_option maxRecDepth 20000 in
theorem ggX5_does_X5_pours : GoodIn wsX5_does wsX5_pours := goodIn_r _ [28, 8, 9, 5, 10, 11, 12, 13, 14, 15, 16, 17, 18, 19, 20, 7, 29, 30, 31, 32, 33, 34, 35, 36, 37, 38, 39, 40, 41, 80, 81, 82, 83, 84, 85, 86, 87, 88, 89, 90, 91, 92] (by decide +kernel) (by decide +kernel)
set_option maxRecDepth 20000 in
theorem gX5_does_X5_pours : GoodIn wsX5_does (wsV RX5 107 RX5 yX5_pours wsX5_pours) := goodIn_app (goodIn_of _ (by decide +kernel)) ggX5_does_X5_pours
set_option maxRecDepth 20000 in
theorem ggX5_does_X5_dips : GoodIn wsX5_does wsX5_dips := goodIn_r _ [45, 8, 9, 5, 10, 11, 12, 13, 14, 15, 16, 17, 18, 19, 20, 7, 29, 30, 31, 32, 33, 34, 35, 36, 37, 38, 39, 40, 41, 80, 81, 82, 83, 84, 85, 86, 87, 88, 89, 90, 91, 92] (by decide +kernel) (by decide +kernel)
set_option maxRecDepth 20000 in
theorem gX5_does_X5_dips : GoodIn wsX5_does (wsV RX5 110 RX5 yX5_dips wsX5_dips) := goodIn_app (goodIn_of _ (by decide +kernel)) ggX5_does_X5_dips
set_option maxRecDepth 20000 in
theorem ggX5_does_X5_paints : GoodIn wsX5_does wsX5_paints := goodIn_r _ [49, 7, 50, 51, 52, 5, 53, 11, 12, 13, 17, 18, 19, 20, 54, 55, 56, 57, 58, 59, 60, 61, 62, 63, 64, 29, 30, 31, 32, 33, 34, 35, 36, 37, 65, 66, 67, 68, 69, 70, 71, 80, 81, 82, 83, 84, 85, 86, 87, 88, 89, 90, 91, 92] (by decide +kernel) (by decide +kernel)
set_option maxRecDepth 20000 in
theorem gX5_does_X5_paints : GoodIn wsX5_does (wsV RX5 113 RX5 yX5_paints wsX5_paints) := goodIn_app (goodIn_of _ (by decide +kernel)) ggX5_does_X5_paints
set_option maxRecDepth 20000 in
theorem ggX5_does_X5_rinsesBrush : GoodIn wsX5_does wsX5_rinsesBrush := goodIn_r _ [75, 7, 17, 18, 19, 5, 20, 76, 77, 78, 79, 80, 81, 82, 83, 84, 85, 86, 87, 88, 89, 90, 91, 92] (by decide +kernel) (by decide +kernel)
set_option maxRecDepth 20000 in
theorem gX5_does_X5_rinsesBrush : GoodIn wsX5_does (wsV RX5 116 RX5 yX5_rinsesBrush wsX5_rinsesBrush) := goodIn_app (goodIn_of _ (by decide +kernel)) ggX5_does_X5_rinsesBrush
theorem dX5_does_0 : decode cX5_does 0 = .ok (.bipush 6, 2) := by decide +kernel
theorem dX5_does_2 : decode cX5_does 2 = .ok (.iload_n 1, 1) := by decide +kernel
theorem dX5_does_3 : decode cX5_does 3 = .ok (.imul, 1) := by decide +kernel
theorem dX5_does_4 : decode cX5_does 4 = .ok (.istore_n 2, 1) := by decide +kernel
theorem dX5_does_5 : decode cX5_does 5 = .ok (.aload_n 0, 1) := by decide +kernel
theorem dX5_does_6 : decode cX5_does 6 = .ok (.getfield 32, 3) := by decide +kernel
theorem dX5_does_9 : decode cX5_does 9 = .ok (.iload_n 2, 1) := by decide +kernel
theorem dX5_does_10 : decode cX5_does 10 = .ok (.iaload, 1) := by decide +kernel
theorem dX5_does_11 : decode cX5_does 11 = .ok (.bipush 43, 2) := by decide +kernel
theorem dX5_does_13 : decode cX5_does 13 = .ok (.if_icmp .ne 86, 3) := by decide +kernel
theorem dX5_does_16 : decode cX5_does 16 = .ok (.iconst 0, 1) := by decide +kernel
theorem dX5_does_17 : decode cX5_does 17 = .ok (.istore_n 3, 1) := by decide +kernel
theorem dX5_does_18 : decode cX5_does 18 = .ok (.iconst 0, 1) := by decide +kernel
theorem dX5_does_19 : decode cX5_does 19 = .ok (.istore 4, 2) := by decide +kernel
theorem dX5_does_21 : decode cX5_does 21 = .ok (.iload 4, 2) := by decide +kernel
theorem dX5_does_23 : decode cX5_does 23 = .ok (.iconst 4, 1) := by decide +kernel
theorem dX5_does_24 : decode cX5_does 24 = .ok (.if_icmp .ge 73, 3) := by decide +kernel
theorem dX5_does_27 : decode cX5_does 27 = .ok (.aload_n 0, 1) := by decide +kernel
theorem dX5_does_28 : decode cX5_does 28 = .ok (.getfield 32, 3) := by decide +kernel
theorem dX5_does_31 : decode cX5_does 31 = .ok (.iload_n 2, 1) := by decide +kernel
theorem dX5_does_32 : decode cX5_does 32 = .ok (.iconst 2, 1) := by decide +kernel
theorem dX5_does_33 : decode cX5_does 33 = .ok (.iadd, 1) := by decide +kernel
theorem dX5_does_34 : decode cX5_does 34 = .ok (.iload 4, 2) := by decide +kernel
theorem dX5_does_36 : decode cX5_does 36 = .ok (.iadd, 1) := by decide +kernel
theorem dX5_does_37 : decode cX5_does 37 = .ok (.iaload, 1) := by decide +kernel
theorem dX5_does_38 : decode cX5_does 38 = .ok (.ifCond .le 35, 3) := by decide +kernel
theorem dX5_does_41 : decode cX5_does 41 = .ok (.aload_n 0, 1) := by decide +kernel
theorem dX5_does_42 : decode cX5_does 42 = .ok (.aload_n 0, 1) := by decide +kernel
theorem dX5_does_43 : decode cX5_does 43 = .ok (.getfield 32, 3) := by decide +kernel
theorem dX5_does_46 : decode cX5_does 46 = .ok (.iload_n 2, 1) := by decide +kernel
theorem dX5_does_47 : decode cX5_does 47 = .ok (.iconst 1, 1) := by decide +kernel
theorem dX5_does_48 : decode cX5_does 48 = .ok (.iadd, 1) := by decide +kernel
theorem dX5_does_49 : decode cX5_does 49 = .ok (.iaload, 1) := by decide +kernel
theorem dX5_does_50 : decode cX5_does 50 = .ok (.iload 4, 2) := by decide +kernel
theorem dX5_does_52 : decode cX5_does 52 = .ok (.aload_n 0, 1) := by decide +kernel
theorem dX5_does_53 : decode cX5_does 53 = .ok (.getfield 32, 3) := by decide +kernel
theorem dX5_does_56 : decode cX5_does 56 = .ok (.iload_n 2, 1) := by decide +kernel
theorem dX5_does_57 : decode cX5_does 57 = .ok (.iconst 2, 1) := by decide +kernel
theorem dX5_does_58 : decode cX5_does 58 = .ok (.iadd, 1) := by decide +kernel
theorem dX5_does_59 : decode cX5_does 59 = .ok (.iload 4, 2) := by decide +kernel
theorem dX5_does_61 : decode cX5_does 61 = .ok (.iadd, 1) := by decide +kernel
theorem dX5_does_62 : decode cX5_does 62 = .ok (.iaload, 1) := by decide +kernel
theorem dX5_does_63 : decode cX5_does 63 = .ok (.invokevirtual 101, 3) := by decide +kernel
theorem dX5_does_66 : decode cX5_does 66 = .ok (.ifCond .lt 7, 3) := by decide +kernel
theorem dX5_does_69 : decode cX5_does 69 = .ok (.iconst 1, 1) := by decide +kernel
theorem dX5_does_70 : decode cX5_does 70 = .ok (.goto 4, 3) := by decide +kernel
theorem dX5_does_73 : decode cX5_does 73 = .ok (.iconst 0, 1) := by decide +kernel
theorem dX5_does_74 : decode cX5_does 74 = .ok (.istore 5, 2) := by decide +kernel
theorem dX5_does_76 : decode cX5_does 76 = .ok (.iload_n 3, 1) := by decide +kernel
theorem dX5_does_77 : decode cX5_does 77 = .ok (.ifCond .ne 8, 3) := by decide +kernel
theorem dX5_does_80 : decode cX5_does 80 = .ok (.iload 5, 2) := by decide +kernel
theorem dX5_does_82 : decode cX5_does 82 = .ok (.ifCond .eq 7, 3) := by decide +kernel
theorem dX5_does_85 : decode cX5_does 85 = .ok (.iconst 1, 1) := by decide +kernel
theorem dX5_does_86 : decode cX5_does 86 = .ok (.goto 4, 3) := by decide +kernel
theorem dX5_does_89 : decode cX5_does 89 = .ok (.iconst 0, 1) := by decide +kernel
theorem dX5_does_90 : decode cX5_does 90 = .ok (.istore_n 3, 1) := by decide +kernel
theorem dX5_does_91 : decode cX5_does 91 = .ok (.iinc 4 1, 3) := by decide +kernel
theorem dX5_does_94 : decode cX5_does 94 = .ok (.goto (-73), 3) := by decide +kernel
theorem dX5_does_97 : decode cX5_does 97 = .ok (.iload_n 3, 1) := by decide +kernel
theorem dX5_does_98 : decode cX5_does 98 = .ok (.ireturn, 1) := by decide +kernel
theorem dX5_does_99 : decode cX5_does 99 = .ok (.aload_n 0, 1) := by decide +kernel
theorem dX5_does_100 : decode cX5_does 100 = .ok (.getfield 32, 3) := by decide +kernel
theorem dX5_does_103 : decode cX5_does 103 = .ok (.iload_n 2, 1) := by decide +kernel
theorem dX5_does_104 : decode cX5_does 104 = .ok (.iaload, 1) := by decide +kernel
theorem dX5_does_105 : decode cX5_does 105 = .ok (.lookupswitch 151 #[(33, 43), (62, 64), (100, 101), (112, 130)], 43) := by decide +kernel
theorem dX5_does_148 : decode cX5_does 148 = .ok (.aload_n 0, 1) := by decide +kernel
theorem dX5_does_149 : decode cX5_does 149 = .ok (.aload_n 0, 1) := by decide +kernel
theorem dX5_does_150 : decode cX5_does 150 = .ok (.getfield 32, 3) := by decide +kernel
theorem dX5_does_153 : decode cX5_does 153 = .ok (.iload_n 2, 1) := by decide +kernel
theorem dX5_does_154 : decode cX5_does 154 = .ok (.iconst 1, 1) := by decide +kernel
theorem dX5_does_155 : decode cX5_does 155 = .ok (.iadd, 1) := by decide +kernel
theorem dX5_does_156 : decode cX5_does 156 = .ok (.iaload, 1) := by decide +kernel
theorem dX5_does_157 : decode cX5_does 157 = .ok (.invokevirtual 104, 3) := by decide +kernel
theorem dX5_does_160 : decode cX5_does 160 = .ok (.ifCond .lt 7, 3) := by decide +kernel
theorem dX5_does_163 : decode cX5_does 163 = .ok (.iconst 1, 1) := by decide +kernel
theorem dX5_does_164 : decode cX5_does 164 = .ok (.goto 4, 3) := by decide +kernel
theorem dX5_does_167 : decode cX5_does 167 = .ok (.iconst 0, 1) := by decide +kernel
theorem dX5_does_168 : decode cX5_does 168 = .ok (.ireturn, 1) := by decide +kernel
theorem dX5_does_169 : decode cX5_does 169 = .ok (.aload_n 0, 1) := by decide +kernel
theorem dX5_does_170 : decode cX5_does 170 = .ok (.aload_n 0, 1) := by decide +kernel
theorem dX5_does_171 : decode cX5_does 171 = .ok (.getfield 32, 3) := by decide +kernel
theorem dX5_does_174 : decode cX5_does 174 = .ok (.iload_n 2, 1) := by decide +kernel
theorem dX5_does_175 : decode cX5_does 175 = .ok (.iconst 1, 1) := by decide +kernel
theorem dX5_does_176 : decode cX5_does 176 = .ok (.iadd, 1) := by decide +kernel
theorem dX5_does_177 : decode cX5_does 177 = .ok (.iaload, 1) := by decide +kernel
theorem dX5_does_178 : decode cX5_does 178 = .ok (.aload_n 0, 1) := by decide +kernel
theorem dX5_does_179 : decode cX5_does 179 = .ok (.getfield 32, 3) := by decide +kernel
theorem dX5_does_182 : decode cX5_does 182 = .ok (.iload_n 2, 1) := by decide +kernel
theorem dX5_does_183 : decode cX5_does 183 = .ok (.iconst 2, 1) := by decide +kernel
theorem dX5_does_184 : decode cX5_does 184 = .ok (.iadd, 1) := by decide +kernel
theorem dX5_does_185 : decode cX5_does 185 = .ok (.iaload, 1) := by decide +kernel
theorem dX5_does_186 : decode cX5_does 186 = .ok (.aload_n 0, 1) := by decide +kernel
theorem dX5_does_187 : decode cX5_does 187 = .ok (.getfield 32, 3) := by decide +kernel
theorem dX5_does_190 : decode cX5_does 190 = .ok (.iload_n 2, 1) := by decide +kernel
theorem dX5_does_191 : decode cX5_does 191 = .ok (.iconst 3, 1) := by decide +kernel
theorem dX5_does_192 : decode cX5_does 192 = .ok (.iadd, 1) := by decide +kernel
theorem dX5_does_193 : decode cX5_does 193 = .ok (.iaload, 1) := by decide +kernel
theorem dX5_does_194 : decode cX5_does 194 = .ok (.invokevirtual 107, 3) := by decide +kernel
theorem dX5_does_197 : decode cX5_does 197 = .ok (.ifCond .lt 7, 3) := by decide +kernel
theorem dX5_does_200 : decode cX5_does 200 = .ok (.iconst 1, 1) := by decide +kernel
theorem dX5_does_201 : decode cX5_does 201 = .ok (.goto 4, 3) := by decide +kernel
theorem dX5_does_204 : decode cX5_does 204 = .ok (.iconst 0, 1) := by decide +kernel
theorem dX5_does_205 : decode cX5_does 205 = .ok (.ireturn, 1) := by decide +kernel
theorem dX5_does_206 : decode cX5_does 206 = .ok (.aload_n 0, 1) := by decide +kernel
theorem dX5_does_207 : decode cX5_does 207 = .ok (.aload_n 0, 1) := by decide +kernel
theorem dX5_does_208 : decode cX5_does 208 = .ok (.getfield 32, 3) := by decide +kernel
theorem dX5_does_211 : decode cX5_does 211 = .ok (.iload_n 2, 1) := by decide +kernel
theorem dX5_does_212 : decode cX5_does 212 = .ok (.iconst 1, 1) := by decide +kernel
theorem dX5_does_213 : decode cX5_does 213 = .ok (.iadd, 1) := by decide +kernel
theorem dX5_does_214 : decode cX5_does 214 = .ok (.iaload, 1) := by decide +kernel
theorem dX5_does_215 : decode cX5_does 215 = .ok (.aload_n 0, 1) := by decide +kernel
theorem dX5_does_216 : decode cX5_does 216 = .ok (.getfield 32, 3) := by decide +kernel
theorem dX5_does_219 : decode cX5_does 219 = .ok (.iload_n 2, 1) := by decide +kernel
theorem dX5_does_220 : decode cX5_does 220 = .ok (.iconst 2, 1) := by decide +kernel
theorem dX5_does_221 : decode cX5_does 221 = .ok (.iadd, 1) := by decide +kernel
theorem dX5_does_222 : decode cX5_does 222 = .ok (.iaload, 1) := by decide +kernel
theorem dX5_does_223 : decode cX5_does 223 = .ok (.invokevirtual 110, 3) := by decide +kernel
theorem dX5_does_226 : decode cX5_does 226 = .ok (.ifCond .lt 7, 3) := by decide +kernel
theorem dX5_does_229 : decode cX5_does 229 = .ok (.iconst 1, 1) := by decide +kernel
theorem dX5_does_230 : decode cX5_does 230 = .ok (.goto 4, 3) := by decide +kernel
theorem dX5_does_233 : decode cX5_does 233 = .ok (.iconst 0, 1) := by decide +kernel
theorem dX5_does_234 : decode cX5_does 234 = .ok (.ireturn, 1) := by decide +kernel
theorem dX5_does_235 : decode cX5_does 235 = .ok (.aload_n 0, 1) := by decide +kernel
theorem dX5_does_236 : decode cX5_does 236 = .ok (.aload_n 0, 1) := by decide +kernel
theorem dX5_does_237 : decode cX5_does 237 = .ok (.getfield 32, 3) := by decide +kernel
theorem dX5_does_240 : decode cX5_does 240 = .ok (.iload_n 2, 1) := by decide +kernel
theorem dX5_does_241 : decode cX5_does 241 = .ok (.iconst 1, 1) := by decide +kernel
theorem dX5_does_242 : decode cX5_does 242 = .ok (.iadd, 1) := by decide +kernel
theorem dX5_does_243 : decode cX5_does 243 = .ok (.iaload, 1) := by decide +kernel
theorem dX5_does_244 : decode cX5_does 244 = .ok (.invokevirtual 113, 3) := by decide +kernel
theorem dX5_does_247 : decode cX5_does 247 = .ok (.ifCond .lt 7, 3) := by decide +kernel
theorem dX5_does_250 : decode cX5_does 250 = .ok (.iconst 1, 1) := by decide +kernel
theorem dX5_does_251 : decode cX5_does 251 = .ok (.goto 4, 3) := by decide +kernel
theorem dX5_does_254 : decode cX5_does 254 = .ok (.iconst 0, 1) := by decide +kernel
theorem dX5_does_255 : decode cX5_does 255 = .ok (.ireturn, 1) := by decide +kernel
theorem dX5_does_256 : decode cX5_does 256 = .ok (.aload_n 0, 1) := by decide +kernel
theorem dX5_does_257 : decode cX5_does 257 = .ok (.invokevirtual 116, 3) := by decide +kernel
theorem dX5_does_260 : decode cX5_does 260 = .ok (.ifCond .lt 7, 3) := by decide +kernel
theorem dX5_does_263 : decode cX5_does 263 = .ok (.iconst 1, 1) := by decide +kernel
theorem dX5_does_264 : decode cX5_does 264 = .ok (.goto 4, 3) := by decide +kernel
theorem dX5_does_267 : decode cX5_does 267 = .ok (.iconst 0, 1) := by decide +kernel
theorem dX5_does_268 : decode cX5_does 268 = .ok (.ireturn, 1) := by decide +kernel
set_option maxRecDepth 20000 in
theorem ggX5_run_X5_faultOf : GoodIn wsX5_run wsX5_faultOf := goodIn_r _ [7, 8, 1, 2, 9, 10, 11, 6, 12, 13, 14, 15, 16, 17, 18, 19, 20, 21, 22, 23, 24, 25, 26, 27, 28, 29, 30, 31, 32, 33, 34, 35, 36, 37, 38, 39, 40, 41, 42, 135, 136, 137, 138, 139, 140, 141, 142, 143, 144, 145, 146, 147] (by decide +kernel) (by decide +kernel)
set_option maxRecDepth 20000 in
theorem gX5_run_X5_faultOf : GoodIn wsX5_run (wsV RX5 160 RX5 yX5_faultOf wsX5_faultOf) := goodIn_app (goodIn_of _ (by decide +kernel)) ggX5_run_X5_faultOf
set_option maxRecDepth 20000 in
theorem ggX5_run_X5_hold : GoodIn wsX5_run wsX5_hold := goodIn_r _ [46, 47, 48, 135, 136, 137, 138, 139, 140, 141, 142, 143, 144, 145, 146, 147] (by decide +kernel) (by decide +kernel)
set_option maxRecDepth 20000 in
theorem gX5_run_X5_hold : GoodIn wsX5_run (wsV RX5 95 RX5 yX5_hold wsX5_hold) := goodIn_app (goodIn_of _ (by decide +kernel)) ggX5_run_X5_hold
set_option maxRecDepth 20000 in
theorem ggX5_run_X5_does : GoodIn wsX5_run wsX5_does := goodIn_r _ [52, 13, 53, 54, 55, 6, 56, 48, 57, 58, 59, 60, 61, 62, 63, 64, 65, 66, 67, 68, 69, 70, 71, 72, 73, 74, 75, 76, 77, 78, 79, 80, 81, 82, 83, 84, 85, 86, 87, 88, 89, 90, 91, 92, 93, 94, 95, 96, 97, 98, 99, 100, 101, 102, 103, 104, 105, 106, 107, 108, 109, 110, 111, 112, 113, 114, 115, 116, 117, 118, 119, 120, 121, 122, 123, 124, 125, 126, 127, 128, 135, 136, 137, 138, 139, 140, 141, 142, 143, 144, 145, 146, 147] (by decide +kernel) (by decide +kernel)
set_option maxRecDepth 20000 in
theorem gX5_run_X5_does : GoodIn wsX5_run (wsV RX5 163 RX5 yX5_does wsX5_does) := goodIn_app (goodIn_of _ (by decide +kernel)) ggX5_run_X5_does
set_option maxRecDepth 20000 in
theorem ggX5_run_X5_recorded : GoodIn wsX5_run wsX5_recorded := goodIn_r _ [132, 133, 134, 47, 135, 136, 137, 138, 139, 140, 141, 142, 143, 144, 145, 146, 147] (by decide +kernel) (by decide +kernel)
set_option maxRecDepth 20000 in
theorem gX5_run_X5_recorded : GoodIn wsX5_run (wsV RX5 98 RX5 yX5_recorded wsX5_recorded) := goodIn_app (goodIn_of _ (by decide +kernel)) ggX5_run_X5_recorded
theorem dX5_run_0 : decode cX5_run 0 = .ok (.aload_n 0, 1) := by decide +kernel
theorem dX5_run_1 : decode cX5_run 1 = .ok (.invokevirtual 160, 3) := by decide +kernel
theorem dX5_run_4 : decode cX5_run 4 = .ok (.ifCond .lt 6, 3) := by decide +kernel
theorem dX5_run_7 : decode cX5_run 7 = .ok (.bipush (-3), 2) := by decide +kernel
theorem dX5_run_9 : decode cX5_run 9 = .ok (.ireturn, 1) := by decide +kernel
theorem dX5_run_10 : decode cX5_run 10 = .ok (.aload_n 0, 1) := by decide +kernel
theorem dX5_run_11 : decode cX5_run 11 = .ok (.invokevirtual 95, 3) := by decide +kernel
theorem dX5_run_14 : decode cX5_run 14 = .ok (.iconst 0, 1) := by decide +kernel
theorem dX5_run_15 : decode cX5_run 15 = .ok (.istore_n 1, 1) := by decide +kernel
theorem dX5_run_16 : decode cX5_run 16 = .ok (.iconst 0, 1) := by decide +kernel
theorem dX5_run_17 : decode cX5_run 17 = .ok (.istore_n 2, 1) := by decide +kernel
theorem dX5_run_18 : decode cX5_run 18 = .ok (.iload_n 2, 1) := by decide +kernel
theorem dX5_run_19 : decode cX5_run 19 = .ok (.aload_n 0, 1) := by decide +kernel
theorem dX5_run_20 : decode cX5_run 20 = .ok (.getfield 133, 3) := by decide +kernel
theorem dX5_run_23 : decode cX5_run 23 = .ok (.if_icmp .ge 25, 3) := by decide +kernel
theorem dX5_run_26 : decode cX5_run 26 = .ok (.iload_n 1, 1) := by decide +kernel
theorem dX5_run_27 : decode cX5_run 27 = .ok (.aload_n 0, 1) := by decide +kernel
theorem dX5_run_28 : decode cX5_run 28 = .ok (.iload_n 2, 1) := by decide +kernel
theorem dX5_run_29 : decode cX5_run 29 = .ok (.invokevirtual 163, 3) := by decide +kernel
theorem dX5_run_32 : decode cX5_run 32 = .ok (.ifCond .eq 7, 3) := by decide +kernel
theorem dX5_run_35 : decode cX5_run 35 = .ok (.iconst 1, 1) := by decide +kernel
theorem dX5_run_36 : decode cX5_run 36 = .ok (.goto 4, 3) := by decide +kernel
theorem dX5_run_39 : decode cX5_run 39 = .ok (.iconst 0, 1) := by decide +kernel
theorem dX5_run_40 : decode cX5_run 40 = .ok (.iadd, 1) := by decide +kernel
theorem dX5_run_41 : decode cX5_run 41 = .ok (.istore_n 1, 1) := by decide +kernel
theorem dX5_run_42 : decode cX5_run 42 = .ok (.iinc 2 1, 3) := by decide +kernel
theorem dX5_run_45 : decode cX5_run 45 = .ok (.goto (-27), 3) := by decide +kernel
theorem dX5_run_48 : decode cX5_run 48 = .ok (.aload_n 0, 1) := by decide +kernel
theorem dX5_run_49 : decode cX5_run 49 = .ok (.iconst 0, 1) := by decide +kernel
theorem dX5_run_50 : decode cX5_run 50 = .ok (.putfield 126, 3) := by decide +kernel
theorem dX5_run_53 : decode cX5_run 53 = .ok (.aload_n 0, 1) := by decide +kernel
theorem dX5_run_54 : decode cX5_run 54 = .ok (.iload_n 1, 1) := by decide +kernel
theorem dX5_run_55 : decode cX5_run 55 = .ok (.invokevirtual 98, 3) := by decide +kernel
theorem dX5_run_58 : decode cX5_run 58 = .ok (.ireturn, 1) := by decide +kernel
set_option maxRecDepth 20000 in
theorem ggX5_ofPaint_X5_drops : GoodIn wsX5_ofPaint wsX5_drops := goodIn_r _ [6, 1, 11, 12, 13, 14, 15, 16, 17, 18, 19, 20, 21, 22, 23] (by decide +kernel) (by decide +kernel)
set_option maxRecDepth 20000 in
theorem gX5_ofPaint_X5_drops : GoodIn wsX5_ofPaint (wsV RX5 47 RX5 yX5_drops wsX5_drops) := goodIn_app (goodIn_of _ (by decide +kernel)) ggX5_ofPaint_X5_drops
set_option maxRecDepth 20000 in
theorem ggX5_ofPaint_X5_strength : GoodIn wsX5_ofPaint wsX5_strength := goodIn_r _ [10, 1, 2, 3, 4, 5, 6, 11, 12, 13, 14, 15, 16, 17, 18, 19, 20, 21, 22, 23] (by decide +kernel) (by decide +kernel)
set_option maxRecDepth 20000 in
theorem gX5_ofPaint_X5_strength : GoodIn wsX5_ofPaint (wsV RX5 58 RX5 yX5_strength wsX5_strength) := goodIn_app (goodIn_of _ (by decide +kernel)) ggX5_ofPaint_X5_strength
theorem dX5_ofPaint_0 : decode cX5_ofPaint 0 = .ok (.iload_n 2, 1) := by decide +kernel
theorem dX5_ofPaint_1 : decode cX5_ofPaint 1 = .ok (.iconst 4, 1) := by decide +kernel
theorem dX5_ofPaint_2 : decode cX5_ofPaint 2 = .ok (.if_icmp .ge 14, 3) := by decide +kernel
theorem dX5_ofPaint_5 : decode cX5_ofPaint 5 = .ok (.aload_n 0, 1) := by decide +kernel
theorem dX5_ofPaint_6 : decode cX5_ofPaint 6 = .ok (.getfield 7, 3) := by decide +kernel
theorem dX5_ofPaint_9 : decode cX5_ofPaint 9 = .ok (.iload_n 1, 1) := by decide +kernel
theorem dX5_ofPaint_10 : decode cX5_ofPaint 10 = .ok (.iload_n 2, 1) := by decide +kernel
theorem dX5_ofPaint_11 : decode cX5_ofPaint 11 = .ok (.iadd, 1) := by decide +kernel
theorem dX5_ofPaint_12 : decode cX5_ofPaint 12 = .ok (.iaload, 1) := by decide +kernel
theorem dX5_ofPaint_13 : decode cX5_ofPaint 13 = .ok (.goto 37, 3) := by decide +kernel
theorem dX5_ofPaint_16 : decode cX5_ofPaint 16 = .ok (.iload_n 2, 1) := by decide +kernel
theorem dX5_ofPaint_17 : decode cX5_ofPaint 17 = .ok (.iconst 4, 1) := by decide +kernel
theorem dX5_ofPaint_18 : decode cX5_ofPaint 18 = .ok (.if_icmp .ne 11, 3) := by decide +kernel
theorem dX5_ofPaint_21 : decode cX5_ofPaint 21 = .ok (.aload_n 0, 1) := by decide +kernel
theorem dX5_ofPaint_22 : decode cX5_ofPaint 22 = .ok (.iload_n 1, 1) := by decide +kernel
theorem dX5_ofPaint_23 : decode cX5_ofPaint 23 = .ok (.invokevirtual 47, 3) := by decide +kernel
theorem dX5_ofPaint_26 : decode cX5_ofPaint 26 = .ok (.goto 24, 3) := by decide +kernel
theorem dX5_ofPaint_29 : decode cX5_ofPaint 29 = .ok (.aload_n 0, 1) := by decide +kernel
theorem dX5_ofPaint_30 : decode cX5_ofPaint 30 = .ok (.iload_n 1, 1) := by decide +kernel
theorem dX5_ofPaint_31 : decode cX5_ofPaint 31 = .ok (.invokevirtual 47, 3) := by decide +kernel
theorem dX5_ofPaint_34 : decode cX5_ofPaint 34 = .ok (.ifCond .ne 8, 3) := by decide +kernel
theorem dX5_ofPaint_37 : decode cX5_ofPaint 37 = .ok (.bipush (-6), 2) := by decide +kernel
theorem dX5_ofPaint_39 : decode cX5_ofPaint 39 = .ok (.goto 11, 3) := by decide +kernel
theorem dX5_ofPaint_42 : decode cX5_ofPaint 42 = .ok (.aload_n 0, 1) := by decide +kernel
theorem dX5_ofPaint_43 : decode cX5_ofPaint 43 = .ok (.iload_n 1, 1) := by decide +kernel
theorem dX5_ofPaint_44 : decode cX5_ofPaint 44 = .ok (.iload_n 2, 1) := by decide +kernel
theorem dX5_ofPaint_45 : decode cX5_ofPaint 45 = .ok (.iconst 5, 1) := by decide +kernel
theorem dX5_ofPaint_46 : decode cX5_ofPaint 46 = .ok (.isub, 1) := by decide +kernel
theorem dX5_ofPaint_47 : decode cX5_ofPaint 47 = .ok (.invokevirtual 58, 3) := by decide +kernel
theorem dX5_ofPaint_50 : decode cX5_ofPaint 50 = .ok (.ireturn, 1) := by decide +kernel
set_option maxRecDepth 20000 in
theorem ggX5_pot_X5_isPot : GoodIn wsX5_pot wsX5_isPot := goodIn_r _ [5, 6, 7, 4, 8] (by decide +kernel) (by decide +kernel)
set_option maxRecDepth 20000 in
theorem gX5_pot_X5_isPot : GoodIn wsX5_pot (va_wsS RX5 75 yX5_isPot wsX5_isPot) := goodIn_app (goodIn_of _ (by decide +kernel)) ggX5_pot_X5_isPot
set_option maxRecDepth 20000 in
theorem ggX5_pot_X5_in : GoodIn wsX5_pot wsX5_in := goodIn_r _ [8] (by decide +kernel) (by decide +kernel)
set_option maxRecDepth 20000 in
theorem gX5_pot_X5_in : GoodIn wsX5_pot (va_wsS RX5 39 yX5_in wsX5_in) := goodIn_app (goodIn_of _ (by decide +kernel)) ggX5_pot_X5_in
set_option maxRecDepth 20000 in
theorem ggX5_pot_X5_p : GoodIn wsX5_pot wsX5_p := goodIn_r _ [11] (by decide +kernel) (by decide +kernel)
set_option maxRecDepth 20000 in
theorem gX5_pot_X5_p : GoodIn wsX5_pot (va_wsS RX5 72 yX5_p wsX5_p) := goodIn_app (goodIn_of _ (by decide +kernel)) ggX5_pot_X5_p
set_option maxRecDepth 20000 in
theorem ggX5_pot_X5_ofPaint : GoodIn wsX5_pot wsX5_ofPaint := goodIn_r _ [15, 1, 16, 17, 18, 4, 19, 20, 21, 22, 23, 24, 25, 26, 27, 28, 29, 30, 31, 32, 33, 34, 35, 36] (by decide +kernel) (by decide +kernel)
set_option maxRecDepth 20000 in
theorem gX5_pot_X5_ofPaint : GoodIn wsX5_pot (wsV RX5 166 RX5 yX5_ofPaint wsX5_ofPaint) := goodIn_app (goodIn_of _ (by decide +kernel)) ggX5_pot_X5_ofPaint
theorem dX5_pot_0 : decode cX5_pot 0 = .ok (.iload_n 1, 1) := by decide +kernel
theorem dX5_pot_1 : decode cX5_pot 1 = .ok (.invokestatic 75, 3) := by decide +kernel
theorem dX5_pot_4 : decode cX5_pot 4 = .ok (.ifCond .ne 5, 3) := by decide +kernel
theorem dX5_pot_7 : decode cX5_pot 7 = .ok (.iconst (-1), 1) := by decide +kernel
theorem dX5_pot_8 : decode cX5_pot 8 = .ok (.ireturn, 1) := by decide +kernel
theorem dX5_pot_9 : decode cX5_pot 9 = .ok (.iload_n 2, 1) := by decide +kernel
theorem dX5_pot_10 : decode cX5_pot 10 = .ok (.iconst 0, 1) := by decide +kernel
theorem dX5_pot_11 : decode cX5_pot 11 = .ok (.bipush 8, 2) := by decide +kernel
theorem dX5_pot_13 : decode cX5_pot 13 = .ok (.invokestatic 39, 3) := by decide +kernel
theorem dX5_pot_16 : decode cX5_pot 16 = .ok (.ifCond .ne 8, 3) := by decide +kernel
theorem dX5_pot_19 : decode cX5_pot 19 = .ok (.bipush (-2), 2) := by decide +kernel
theorem dX5_pot_21 : decode cX5_pot 21 = .ok (.goto 32, 3) := by decide +kernel
theorem dX5_pot_24 : decode cX5_pot 24 = .ok (.iload_n 2, 1) := by decide +kernel
theorem dX5_pot_25 : decode cX5_pot 25 = .ok (.bipush 8, 2) := by decide +kernel
theorem dX5_pot_27 : decode cX5_pot 27 = .ok (.if_icmp .ne 17, 3) := by decide +kernel
theorem dX5_pot_30 : decode cX5_pot 30 = .ok (.aload_n 0, 1) := by decide +kernel
theorem dX5_pot_31 : decode cX5_pot 31 = .ok (.getfield 7, 3) := by decide +kernel
theorem dX5_pot_34 : decode cX5_pot 34 = .ok (.iload_n 1, 1) := by decide +kernel
theorem dX5_pot_35 : decode cX5_pot 35 = .ok (.invokestatic 72, 3) := by decide +kernel
theorem dX5_pot_38 : decode cX5_pot 38 = .ok (.iconst 4, 1) := by decide +kernel
theorem dX5_pot_39 : decode cX5_pot 39 = .ok (.iadd, 1) := by decide +kernel
theorem dX5_pot_40 : decode cX5_pot 40 = .ok (.iaload, 1) := by decide +kernel
theorem dX5_pot_41 : decode cX5_pot 41 = .ok (.goto 12, 3) := by decide +kernel
theorem dX5_pot_44 : decode cX5_pot 44 = .ok (.aload_n 0, 1) := by decide +kernel
theorem dX5_pot_45 : decode cX5_pot 45 = .ok (.iload_n 1, 1) := by decide +kernel
theorem dX5_pot_46 : decode cX5_pot 46 = .ok (.invokestatic 72, 3) := by decide +kernel
theorem dX5_pot_49 : decode cX5_pot 49 = .ok (.iload_n 2, 1) := by decide +kernel
theorem dX5_pot_50 : decode cX5_pot 50 = .ok (.invokevirtual 166, 3) := by decide +kernel
theorem dX5_pot_53 : decode cX5_pot 53 = .ok (.ireturn, 1) := by decide +kernel
set_option maxRecDepth 20000 in
theorem ggX5_brush_X5_in : GoodIn wsX5_brush wsX5_in := goodIn_r _ [4] (by decide +kernel) (by decide +kernel)
set_option maxRecDepth 20000 in
theorem gX5_brush_X5_in : GoodIn wsX5_brush (va_wsS RX5 39 yX5_in wsX5_in) := goodIn_app (goodIn_of _ (by decide +kernel)) ggX5_brush_X5_in
set_option maxRecDepth 20000 in
theorem ggX5_brush_X5_ofPaint : GoodIn wsX5_brush wsX5_ofPaint := goodIn_r _ [8, 9, 10, 11, 12, 3, 13, 14, 15, 16, 17, 18, 19, 20, 21, 22, 23, 24, 25, 26, 27, 28, 29, 30] (by decide +kernel) (by decide +kernel)
set_option maxRecDepth 20000 in
theorem gX5_brush_X5_ofPaint : GoodIn wsX5_brush (wsV RX5 166 RX5 yX5_ofPaint wsX5_ofPaint) := goodIn_app (goodIn_of _ (by decide +kernel)) ggX5_brush_X5_ofPaint
theorem dX5_brush_0 : decode cX5_brush 0 = .ok (.iload_n 1, 1) := by decide +kernel
theorem dX5_brush_1 : decode cX5_brush 1 = .ok (.iconst 0, 1) := by decide +kernel
theorem dX5_brush_2 : decode cX5_brush 2 = .ok (.bipush 7, 2) := by decide +kernel
theorem dX5_brush_4 : decode cX5_brush 4 = .ok (.invokestatic 39, 3) := by decide +kernel
theorem dX5_brush_7 : decode cX5_brush 7 = .ok (.ifCond .eq 13, 3) := by decide +kernel
theorem dX5_brush_10 : decode cX5_brush 10 = .ok (.aload_n 0, 1) := by decide +kernel
theorem dX5_brush_11 : decode cX5_brush 11 = .ok (.bipush 47, 2) := by decide +kernel
theorem dX5_brush_13 : decode cX5_brush 13 = .ok (.iload_n 1, 1) := by decide +kernel
theorem dX5_brush_14 : decode cX5_brush 14 = .ok (.invokevirtual 166, 3) := by decide +kernel
theorem dX5_brush_17 : decode cX5_brush 17 = .ok (.goto 5, 3) := by decide +kernel
theorem dX5_brush_20 : decode cX5_brush 20 = .ok (.bipush (-2), 2) := by decide +kernel
theorem dX5_brush_22 : decode cX5_brush 22 = .ok (.ireturn, 1) := by decide +kernel
set_option maxRecDepth 20000 in
theorem ggX5_panel_X5_isPanel : GoodIn wsX5_panel wsX5_isPanel := goodIn_r _ [5, 6, 7, 4, 8] (by decide +kernel) (by decide +kernel)
set_option maxRecDepth 20000 in
theorem gX5_panel_X5_isPanel : GoodIn wsX5_panel (va_wsS RX5 86 yX5_isPanel wsX5_isPanel) := goodIn_app (goodIn_of _ (by decide +kernel)) ggX5_panel_X5_isPanel
set_option maxRecDepth 20000 in
theorem ggX5_panel_X5_isWell : GoodIn wsX5_panel wsX5_isWell := goodIn_r _ [12, 1, 13, 14, 15, 4, 16, 17, 18, 19, 20, 21, 22, 23, 24, 25, 26, 27, 28, 29, 30, 31, 32, 33, 34, 35, 36] (by decide +kernel) (by decide +kernel)
set_option maxRecDepth 20000 in
theorem gX5_panel_X5_isWell : GoodIn wsX5_panel (wsV RX5 68 RX5 yX5_isWell wsX5_isWell) := goodIn_app (goodIn_of _ (by decide +kernel)) ggX5_panel_X5_isWell
set_option maxRecDepth 20000 in
theorem ggX5_panel_X5_n : GoodIn wsX5_panel wsX5_n := goodIn_r _ [16] (by decide +kernel) (by decide +kernel)
set_option maxRecDepth 20000 in
theorem gX5_panel_X5_n : GoodIn wsX5_panel (va_wsS RX5 51 yX5_n wsX5_n) := goodIn_app (goodIn_of _ (by decide +kernel)) ggX5_panel_X5_n
set_option maxRecDepth 20000 in
theorem ggX5_panel_X5_distance : GoodIn wsX5_panel wsX5_distance := goodIn_r _ [20, 13, 1, 14, 15, 4, 16, 21, 22, 23, 24, 25, 26, 27, 28, 29, 30, 31, 32, 33, 34, 35, 36] (by decide +kernel) (by decide +kernel)
set_option maxRecDepth 20000 in
theorem gX5_panel_X5_distance : GoodIn wsX5_panel (wsV RX5 65 RX5 yX5_distance wsX5_distance) := goodIn_app (goodIn_of _ (by decide +kernel)) ggX5_panel_X5_distance
theorem dX5_panel_0 : decode cX5_panel 0 = .ok (.iload_n 1, 1) := by decide +kernel
theorem dX5_panel_1 : decode cX5_panel 1 = .ok (.invokestatic 86, 3) := by decide +kernel
theorem dX5_panel_4 : decode cX5_panel 4 = .ok (.ifCond .ne 5, 3) := by decide +kernel
theorem dX5_panel_7 : decode cX5_panel 7 = .ok (.iconst (-1), 1) := by decide +kernel
theorem dX5_panel_8 : decode cX5_panel 8 = .ok (.ireturn, 1) := by decide +kernel
theorem dX5_panel_9 : decode cX5_panel 9 = .ok (.aload_n 0, 1) := by decide +kernel
theorem dX5_panel_10 : decode cX5_panel 10 = .ok (.iload_n 1, 1) := by decide +kernel
theorem dX5_panel_11 : decode cX5_panel 11 = .ok (.invokevirtual 68, 3) := by decide +kernel
theorem dX5_panel_14 : decode cX5_panel 14 = .ok (.istore_n 3, 1) := by decide +kernel
theorem dX5_panel_15 : decode cX5_panel 15 = .ok (.aload_n 0, 1) := by decide +kernel
theorem dX5_panel_16 : decode cX5_panel 16 = .ok (.getfield 7, 3) := by decide +kernel
theorem dX5_panel_19 : decode cX5_panel 19 = .ok (.iload_n 1, 1) := by decide +kernel
theorem dX5_panel_20 : decode cX5_panel 20 = .ok (.invokestatic 51, 3) := by decide +kernel
theorem dX5_panel_23 : decode cX5_panel 23 = .ok (.iconst 3, 1) := by decide +kernel
theorem dX5_panel_24 : decode cX5_panel 24 = .ok (.iadd, 1) := by decide +kernel
theorem dX5_panel_25 : decode cX5_panel 25 = .ok (.iaload, 1) := by decide +kernel
theorem dX5_panel_26 : decode cX5_panel 26 = .ok (.iconst 1, 1) := by decide +kernel
theorem dX5_panel_27 : decode cX5_panel 27 = .ok (.if_icmp .ne 7, 3) := by decide +kernel
theorem dX5_panel_30 : decode cX5_panel 30 = .ok (.iconst 1, 1) := by decide +kernel
theorem dX5_panel_31 : decode cX5_panel 31 = .ok (.goto 4, 3) := by decide +kernel
theorem dX5_panel_34 : decode cX5_panel 34 = .ok (.iconst 0, 1) := by decide +kernel
theorem dX5_panel_35 : decode cX5_panel 35 = .ok (.istore 4, 2) := by decide +kernel
theorem dX5_panel_37 : decode cX5_panel 37 = .ok (.iload_n 2, 1) := by decide +kernel
theorem dX5_panel_38 : decode cX5_panel 38 = .ok (.tableswitch 127 0 8 #[50, 50, 50, 62, 62, 62, 88, 104, 114], 50) := by decide +kernel
theorem dX5_panel_88 : decode cX5_panel 88 = .ok (.aload_n 0, 1) := by decide +kernel
theorem dX5_panel_89 : decode cX5_panel 89 = .ok (.getfield 7, 3) := by decide +kernel
theorem dX5_panel_92 : decode cX5_panel 92 = .ok (.iload_n 1, 1) := by decide +kernel
theorem dX5_panel_93 : decode cX5_panel 93 = .ok (.invokestatic 51, 3) := by decide +kernel
theorem dX5_panel_96 : decode cX5_panel 96 = .ok (.iload_n 2, 1) := by decide +kernel
theorem dX5_panel_97 : decode cX5_panel 97 = .ok (.iadd, 1) := by decide +kernel
theorem dX5_panel_98 : decode cX5_panel 98 = .ok (.iaload, 1) := by decide +kernel
theorem dX5_panel_99 : decode cX5_panel 99 = .ok (.ireturn, 1) := by decide +kernel
theorem dX5_panel_100 : decode cX5_panel 100 = .ok (.iload 4, 2) := by decide +kernel
theorem dX5_panel_102 : decode cX5_panel 102 = .ok (.ifCond .eq 21, 3) := by decide +kernel
theorem dX5_panel_105 : decode cX5_panel 105 = .ok (.aload_n 0, 1) := by decide +kernel
theorem dX5_panel_106 : decode cX5_panel 106 = .ok (.getfield 7, 3) := by decide +kernel
theorem dX5_panel_109 : decode cX5_panel 109 = .ok (.iload_n 1, 1) := by decide +kernel
theorem dX5_panel_110 : decode cX5_panel 110 = .ok (.invokestatic 51, 3) := by decide +kernel
theorem dX5_panel_113 : decode cX5_panel 113 = .ok (.iconst 4, 1) := by decide +kernel
theorem dX5_panel_114 : decode cX5_panel 114 = .ok (.iadd, 1) := by decide +kernel
theorem dX5_panel_115 : decode cX5_panel 115 = .ok (.iload_n 2, 1) := by decide +kernel
theorem dX5_panel_116 : decode cX5_panel 116 = .ok (.iadd, 1) := by decide +kernel
theorem dX5_panel_117 : decode cX5_panel 117 = .ok (.iconst 3, 1) := by decide +kernel
theorem dX5_panel_118 : decode cX5_panel 118 = .ok (.isub, 1) := by decide +kernel
theorem dX5_panel_119 : decode cX5_panel 119 = .ok (.iaload, 1) := by decide +kernel
theorem dX5_panel_120 : decode cX5_panel 120 = .ok (.goto 5, 3) := by decide +kernel
theorem dX5_panel_123 : decode cX5_panel 123 = .ok (.bipush (-6), 2) := by decide +kernel
theorem dX5_panel_125 : decode cX5_panel 125 = .ok (.ireturn, 1) := by decide +kernel
theorem dX5_panel_126 : decode cX5_panel 126 = .ok (.iload 4, 2) := by decide +kernel
theorem dX5_panel_128 : decode cX5_panel 128 = .ok (.ifCond .eq 11, 3) := by decide +kernel
theorem dX5_panel_131 : decode cX5_panel 131 = .ok (.aload_n 0, 1) := by decide +kernel
theorem dX5_panel_132 : decode cX5_panel 132 = .ok (.iload_n 1, 1) := by decide +kernel
theorem dX5_panel_133 : decode cX5_panel 133 = .ok (.invokevirtual 65, 3) := by decide +kernel
theorem dX5_panel_136 : decode cX5_panel 136 = .ok (.goto 5, 3) := by decide +kernel
theorem dX5_panel_139 : decode cX5_panel 139 = .ok (.bipush (-6), 2) := by decide +kernel
theorem dX5_panel_141 : decode cX5_panel 141 = .ok (.ireturn, 1) := by decide +kernel
theorem dX5_panel_142 : decode cX5_panel 142 = .ok (.iload_n 3, 1) := by decide +kernel
theorem dX5_panel_143 : decode cX5_panel 143 = .ok (.ifCond .eq 7, 3) := by decide +kernel
theorem dX5_panel_146 : decode cX5_panel 146 = .ok (.iconst 1, 1) := by decide +kernel
theorem dX5_panel_147 : decode cX5_panel 147 = .ok (.goto 4, 3) := by decide +kernel
theorem dX5_panel_150 : decode cX5_panel 150 = .ok (.iconst 0, 1) := by decide +kernel
theorem dX5_panel_151 : decode cX5_panel 151 = .ok (.ireturn, 1) := by decide +kernel
theorem dX5_panel_152 : decode cX5_panel 152 = .ok (.aload_n 0, 1) := by decide +kernel
theorem dX5_panel_153 : decode cX5_panel 153 = .ok (.getfield 7, 3) := by decide +kernel
theorem dX5_panel_156 : decode cX5_panel 156 = .ok (.iload_n 1, 1) := by decide +kernel
theorem dX5_panel_157 : decode cX5_panel 157 = .ok (.invokestatic 51, 3) := by decide +kernel
theorem dX5_panel_160 : decode cX5_panel 160 = .ok (.bipush 7, 2) := by decide +kernel
theorem dX5_panel_162 : decode cX5_panel 162 = .ok (.iadd, 1) := by decide +kernel
theorem dX5_panel_163 : decode cX5_panel 163 = .ok (.iaload, 1) := by decide +kernel
theorem dX5_panel_164 : decode cX5_panel 164 = .ok (.ireturn, 1) := by decide +kernel
theorem dX5_panel_165 : decode cX5_panel 165 = .ok (.bipush (-2), 2) := by decide +kernel
theorem dX5_panel_167 : decode cX5_panel 167 = .ok (.ireturn, 1) := by decide +kernel
set_option maxRecDepth 20000 in
theorem ggX5_painted_X5_n : GoodIn wsX5_painted wsX5_n := goodIn_r _ [5] (by decide +kernel) (by decide +kernel)
set_option maxRecDepth 20000 in
theorem gX5_painted_X5_n : GoodIn wsX5_painted (va_wsS RX5 51 yX5_n wsX5_n) := goodIn_app (goodIn_of _ (by decide +kernel)) ggX5_painted_X5_n
theorem dX5_painted_0 : decode cX5_painted 0 = .ok (.iconst 0, 1) := by decide +kernel
theorem dX5_painted_1 : decode cX5_painted 1 = .ok (.istore_n 1, 1) := by decide +kernel
theorem dX5_painted_2 : decode cX5_painted 2 = .ok (.iconst 0, 1) := by decide +kernel
theorem dX5_painted_3 : decode cX5_painted 3 = .ok (.istore_n 2, 1) := by decide +kernel
theorem dX5_painted_4 : decode cX5_painted 4 = .ok (.iload_n 2, 1) := by decide +kernel
theorem dX5_painted_5 : decode cX5_painted 5 = .ok (.bipush 6, 2) := by decide +kernel
theorem dX5_painted_7 : decode cX5_painted 7 = .ok (.if_icmp .ge 23, 3) := by decide +kernel
theorem dX5_painted_10 : decode cX5_painted 10 = .ok (.iload_n 1, 1) := by decide +kernel
theorem dX5_painted_11 : decode cX5_painted 11 = .ok (.aload_n 0, 1) := by decide +kernel
theorem dX5_painted_12 : decode cX5_painted 12 = .ok (.getfield 7, 3) := by decide +kernel
theorem dX5_painted_15 : decode cX5_painted 15 = .ok (.iload_n 2, 1) := by decide +kernel
theorem dX5_painted_16 : decode cX5_painted 16 = .ok (.invokestatic 51, 3) := by decide +kernel
theorem dX5_painted_19 : decode cX5_painted 19 = .ok (.iconst 3, 1) := by decide +kernel
theorem dX5_painted_20 : decode cX5_painted 20 = .ok (.iadd, 1) := by decide +kernel
theorem dX5_painted_21 : decode cX5_painted 21 = .ok (.iaload, 1) := by decide +kernel
theorem dX5_painted_22 : decode cX5_painted 22 = .ok (.iadd, 1) := by decide +kernel
theorem dX5_painted_23 : decode cX5_painted 23 = .ok (.istore_n 1, 1) := by decide +kernel
theorem dX5_painted_24 : decode cX5_painted 24 = .ok (.iinc 2 1, 3) := by decide +kernel
theorem dX5_painted_27 : decode cX5_painted 27 = .ok (.goto (-23), 3) := by decide +kernel
theorem dX5_painted_30 : decode cX5_painted 30 = .ok (.iload_n 1, 1) := by decide +kernel
theorem dX5_painted_31 : decode cX5_painted 31 = .ok (.ireturn, 1) := by decide +kernel
set_option maxRecDepth 20000 in
theorem ggX5_count_X5_inPots : GoodIn wsX5_count wsX5_inPots := goodIn_r _ [8, 9, 10, 7, 11, 12, 13, 14, 15, 1, 39, 40, 41, 42, 43, 44, 45, 46, 47, 48, 49, 50, 51] (by decide +kernel) (by decide +kernel)
set_option maxRecDepth 20000 in
theorem gX5_count_X5_inPots : GoodIn wsX5_count (wsV RX5 169 RX5 yX5_inPots wsX5_inPots) := goodIn_app (goodIn_of _ (by decide +kernel)) ggX5_count_X5_inPots
set_option maxRecDepth 20000 in
theorem ggX5_count_X5_painted : GoodIn wsX5_count wsX5_painted := goodIn_r _ [19, 1, 20, 21, 7, 22, 39, 40, 41, 42, 43, 44, 45, 46, 47, 48, 49, 50, 51] (by decide +kernel) (by decide +kernel)
set_option maxRecDepth 20000 in
theorem gX5_count_X5_painted : GoodIn wsX5_count (wsV RX5 172 RX5 yX5_painted wsX5_painted) := goodIn_app (goodIn_of _ (by decide +kernel)) ggX5_count_X5_painted
set_option maxRecDepth 20000 in
theorem ggX5_count_X5_well : GoodIn wsX5_count wsX5_well := goodIn_r _ [26, 27, 28, 29, 7, 30, 1, 31, 20, 21, 22, 32, 33, 34, 35, 36, 37, 38, 39, 40, 41, 42, 43, 44, 45, 46, 47, 48, 49, 50, 51] (by decide +kernel) (by decide +kernel)
set_option maxRecDepth 20000 in
theorem gX5_count_X5_well : GoodIn wsX5_count (wsV RX5 120 RX5 yX5_well wsX5_well) := goodIn_app (goodIn_of _ (by decide +kernel)) ggX5_count_X5_well
theorem dX5_count_0 : decode cX5_count 0 = .ok (.iload_n 1, 1) := by decide +kernel
theorem dX5_count_1 : decode cX5_count 1 = .ok (.tableswitch 124 0 11 #[63, 63, 63, 70, 75, 82, 89, 94, 99, 106, 114, 119], 63) := by decide +kernel
theorem dX5_count_64 : decode cX5_count 64 = .ok (.aload_n 0, 1) := by decide +kernel
theorem dX5_count_65 : decode cX5_count 65 = .ok (.getfield 7, 3) := by decide +kernel
theorem dX5_count_68 : decode cX5_count 68 = .ok (.iload_n 1, 1) := by decide +kernel
theorem dX5_count_69 : decode cX5_count 69 = .ok (.iaload, 1) := by decide +kernel
theorem dX5_count_70 : decode cX5_count 70 = .ok (.ireturn, 1) := by decide +kernel
theorem dX5_count_71 : decode cX5_count 71 = .ok (.aload_n 0, 1) := by decide +kernel
theorem dX5_count_72 : decode cX5_count 72 = .ok (.invokevirtual 169, 3) := by decide +kernel
theorem dX5_count_75 : decode cX5_count 75 = .ok (.ireturn, 1) := by decide +kernel
theorem dX5_count_76 : decode cX5_count 76 = .ok (.aload_n 0, 1) := by decide +kernel
theorem dX5_count_77 : decode cX5_count 77 = .ok (.getfield 7, 3) := by decide +kernel
theorem dX5_count_80 : decode cX5_count 80 = .ok (.iconst 3, 1) := by decide +kernel
theorem dX5_count_81 : decode cX5_count 81 = .ok (.iaload, 1) := by decide +kernel
theorem dX5_count_82 : decode cX5_count 82 = .ok (.ireturn, 1) := by decide +kernel
theorem dX5_count_83 : decode cX5_count 83 = .ok (.aload_n 0, 1) := by decide +kernel
theorem dX5_count_84 : decode cX5_count 84 = .ok (.getfield 7, 3) := by decide +kernel
theorem dX5_count_87 : decode cX5_count 87 = .ok (.iconst 4, 1) := by decide +kernel
theorem dX5_count_88 : decode cX5_count 88 = .ok (.iaload, 1) := by decide +kernel
theorem dX5_count_89 : decode cX5_count 89 = .ok (.ireturn, 1) := by decide +kernel
theorem dX5_count_90 : decode cX5_count 90 = .ok (.aload_n 0, 1) := by decide +kernel
theorem dX5_count_91 : decode cX5_count 91 = .ok (.invokevirtual 172, 3) := by decide +kernel
theorem dX5_count_94 : decode cX5_count 94 = .ok (.ireturn, 1) := by decide +kernel
theorem dX5_count_95 : decode cX5_count 95 = .ok (.aload_n 0, 1) := by decide +kernel
theorem dX5_count_96 : decode cX5_count 96 = .ok (.invokevirtual 120, 3) := by decide +kernel
theorem dX5_count_99 : decode cX5_count 99 = .ok (.ireturn, 1) := by decide +kernel
theorem dX5_count_100 : decode cX5_count 100 = .ok (.aload_n 0, 1) := by decide +kernel
theorem dX5_count_101 : decode cX5_count 101 = .ok (.getfield 7, 3) := by decide +kernel
theorem dX5_count_104 : decode cX5_count 104 = .ok (.iconst 5, 1) := by decide +kernel
theorem dX5_count_105 : decode cX5_count 105 = .ok (.iaload, 1) := by decide +kernel
theorem dX5_count_106 : decode cX5_count 106 = .ok (.ireturn, 1) := by decide +kernel
theorem dX5_count_107 : decode cX5_count 107 = .ok (.aload_n 0, 1) := by decide +kernel
theorem dX5_count_108 : decode cX5_count 108 = .ok (.getfield 7, 3) := by decide +kernel
theorem dX5_count_111 : decode cX5_count 111 = .ok (.bipush 6, 2) := by decide +kernel
theorem dX5_count_113 : decode cX5_count 113 = .ok (.iaload, 1) := by decide +kernel
theorem dX5_count_114 : decode cX5_count 114 = .ok (.ireturn, 1) := by decide +kernel
theorem dX5_count_115 : decode cX5_count 115 = .ok (.aload_n 0, 1) := by decide +kernel
theorem dX5_count_116 : decode cX5_count 116 = .ok (.getfield 126, 3) := by decide +kernel
theorem dX5_count_119 : decode cX5_count 119 = .ok (.ireturn, 1) := by decide +kernel
theorem dX5_count_120 : decode cX5_count 120 = .ok (.aload_n 0, 1) := by decide +kernel
theorem dX5_count_121 : decode cX5_count 121 = .ok (.getfield 43, 3) := by decide +kernel
theorem dX5_count_124 : decode cX5_count 124 = .ok (.ireturn, 1) := by decide +kernel
theorem dX5_count_125 : decode cX5_count 125 = .ok (.bipush (-2), 2) := by decide +kernel
theorem dX5_count_127 : decode cX5_count 127 = .ok (.ireturn, 1) := by decide +kernel
set_option maxRecDepth 20000 in
theorem ggX5_distanceOf_X5_p : GoodIn wsX5_distanceOf wsX5_p := goodIn_r _ [4] (by decide +kernel) (by decide +kernel)
set_option maxRecDepth 20000 in
theorem gX5_distanceOf_X5_p : GoodIn wsX5_distanceOf (va_wsS RX5 72 yX5_p wsX5_p) := goodIn_app (goodIn_of _ (by decide +kernel)) ggX5_distanceOf_X5_p
set_option maxRecDepth 20000 in
theorem ggX5_distanceOf_X5_looksAt : GoodIn wsX5_distanceOf wsX5_looksAt := goodIn_r _ [8, 9, 10, 11, 12, 3, 13, 14, 15, 16, 17, 18, 29, 30, 31, 32, 33, 34, 35, 36, 37, 38, 39, 40, 41] (by decide +kernel) (by decide +kernel)
set_option maxRecDepth 20000 in
theorem gX5_distanceOf_X5_looksAt : GoodIn wsX5_distanceOf (wsV RX5 89 RX5 yX5_looksAt wsX5_looksAt) := goodIn_app (goodIn_of _ (by decide +kernel)) ggX5_distanceOf_X5_looksAt
set_option maxRecDepth 20000 in
theorem ggX5_distanceOf_X5_distance : GoodIn wsX5_distanceOf wsX5_distance := goodIn_r _ [22, 9, 14, 23, 24, 3, 25, 26, 27, 28, 29, 30, 31, 32, 33, 34, 35, 36, 37, 38, 39, 40, 41] (by decide +kernel) (by decide +kernel)
set_option maxRecDepth 20000 in
theorem gX5_distanceOf_X5_distance : GoodIn wsX5_distanceOf (wsV RX5 65 RX5 yX5_distance wsX5_distance) := goodIn_app (goodIn_of _ (by decide +kernel)) ggX5_distanceOf_X5_distance
theorem dX5_distanceOf_0 : decode cX5_distanceOf 0 = .ok (.aload_n 0, 1) := by decide +kernel
theorem dX5_distanceOf_1 : decode cX5_distanceOf 1 = .ok (.iload_n 1, 1) := by decide +kernel
theorem dX5_distanceOf_2 : decode cX5_distanceOf 2 = .ok (.invokestatic 72, 3) := by decide +kernel
theorem dX5_distanceOf_5 : decode cX5_distanceOf 5 = .ok (.invokevirtual 89, 3) := by decide +kernel
theorem dX5_distanceOf_8 : decode cX5_distanceOf 8 = .ok (.aload_n 0, 1) := by decide +kernel
theorem dX5_distanceOf_9 : decode cX5_distanceOf 9 = .ok (.iload_n 2, 1) := by decide +kernel
theorem dX5_distanceOf_10 : decode cX5_distanceOf 10 = .ok (.invokevirtual 65, 3) := by decide +kernel
theorem dX5_distanceOf_13 : decode cX5_distanceOf 13 = .ok (.ireturn, 1) := by decide +kernel
set_option maxRecDepth 20000 in
theorem ggX5_nearestPot_X5_p : GoodIn wsX5_nearestPot wsX5_p := goodIn_r _ [4] (by decide +kernel) (by decide +kernel)
set_option maxRecDepth 20000 in
theorem gX5_nearestPot_X5_p : GoodIn wsX5_nearestPot (va_wsS RX5 72 yX5_p wsX5_p) := goodIn_app (goodIn_of _ (by decide +kernel)) ggX5_nearestPot_X5_p
set_option maxRecDepth 20000 in
theorem ggX5_nearestPot_X5_drops : GoodIn wsX5_nearestPot wsX5_drops := goodIn_r _ [8, 9, 33, 34, 35, 36, 37, 38, 39, 40, 41, 42, 43, 44, 45] (by decide +kernel) (by decide +kernel)
set_option maxRecDepth 20000 in
theorem gX5_nearestPot_X5_drops : GoodIn wsX5_nearestPot (wsV RX5 47 RX5 yX5_drops wsX5_drops) := goodIn_app (goodIn_of _ (by decide +kernel)) ggX5_nearestPot_X5_drops
set_option maxRecDepth 20000 in
theorem ggX5_nearestPot_X5_distanceOf : GoodIn wsX5_nearestPot wsX5_distanceOf := goodIn_r _ [13, 1, 2, 3, 4, 14, 15, 16, 17, 18, 19, 20, 21, 22, 9, 5, 6, 7, 8, 23, 24, 25, 26, 27, 28, 29, 30, 31, 32, 33, 34, 35, 36, 37, 38, 39, 40, 41, 42, 43, 44, 45] (by decide +kernel) (by decide +kernel)
set_option maxRecDepth 20000 in
theorem gX5_nearestPot_X5_distanceOf : GoodIn wsX5_nearestPot (wsV RX5 175 RX5 yX5_distanceOf wsX5_distanceOf) := goodIn_app (goodIn_of _ (by decide +kernel)) ggX5_nearestPot_X5_distanceOf
theorem dX5_nearestPot_0 : decode cX5_nearestPot 0 = .ok (.bipush (-6), 2) := by decide +kernel
theorem dX5_nearestPot_2 : decode cX5_nearestPot 2 = .ok (.istore_n 2, 1) := by decide +kernel
theorem dX5_nearestPot_3 : decode cX5_nearestPot 3 = .ok (.sipush 1000, 3) := by decide +kernel
theorem dX5_nearestPot_6 : decode cX5_nearestPot 6 = .ok (.istore_n 3, 1) := by decide +kernel
theorem dX5_nearestPot_7 : decode cX5_nearestPot 7 = .ok (.iconst 0, 1) := by decide +kernel
theorem dX5_nearestPot_8 : decode cX5_nearestPot 8 = .ok (.istore 4, 2) := by decide +kernel
theorem dX5_nearestPot_10 : decode cX5_nearestPot 10 = .ok (.iload 4, 2) := by decide +kernel
theorem dX5_nearestPot_12 : decode cX5_nearestPot 12 = .ok (.bipush 8, 2) := by decide +kernel
theorem dX5_nearestPot_14 : decode cX5_nearestPot 14 = .ok (.if_icmp .ge 62, 3) := by decide +kernel
theorem dX5_nearestPot_17 : decode cX5_nearestPot 17 = .ok (.aload_n 0, 1) := by decide +kernel
theorem dX5_nearestPot_18 : decode cX5_nearestPot 18 = .ok (.iload 4, 2) := by decide +kernel
theorem dX5_nearestPot_20 : decode cX5_nearestPot 20 = .ok (.invokestatic 72, 3) := by decide +kernel
theorem dX5_nearestPot_23 : decode cX5_nearestPot 23 = .ok (.invokevirtual 47, 3) := by decide +kernel
theorem dX5_nearestPot_26 : decode cX5_nearestPot 26 = .ok (.ifCond .ne 9, 3) := by decide +kernel
theorem dX5_nearestPot_29 : decode cX5_nearestPot 29 = .ok (.sipush 1000, 3) := by decide +kernel
theorem dX5_nearestPot_32 : decode cX5_nearestPot 32 = .ok (.goto 10, 3) := by decide +kernel
theorem dX5_nearestPot_35 : decode cX5_nearestPot 35 = .ok (.aload_n 0, 1) := by decide +kernel
theorem dX5_nearestPot_36 : decode cX5_nearestPot 36 = .ok (.iload 4, 2) := by decide +kernel
theorem dX5_nearestPot_38 : decode cX5_nearestPot 38 = .ok (.iload_n 1, 1) := by decide +kernel
theorem dX5_nearestPot_39 : decode cX5_nearestPot 39 = .ok (.invokevirtual 175, 3) := by decide +kernel
theorem dX5_nearestPot_42 : decode cX5_nearestPot 42 = .ok (.istore 5, 2) := by decide +kernel
theorem dX5_nearestPot_44 : decode cX5_nearestPot 44 = .ok (.iload 5, 2) := by decide +kernel
theorem dX5_nearestPot_46 : decode cX5_nearestPot 46 = .ok (.iload_n 3, 1) := by decide +kernel
theorem dX5_nearestPot_47 : decode cX5_nearestPot 47 = .ok (.if_icmp .ge 8, 3) := by decide +kernel
theorem dX5_nearestPot_50 : decode cX5_nearestPot 50 = .ok (.iload 4, 2) := by decide +kernel
theorem dX5_nearestPot_52 : decode cX5_nearestPot 52 = .ok (.goto 4, 3) := by decide +kernel
theorem dX5_nearestPot_55 : decode cX5_nearestPot 55 = .ok (.iload_n 2, 1) := by decide +kernel
theorem dX5_nearestPot_56 : decode cX5_nearestPot 56 = .ok (.istore_n 2, 1) := by decide +kernel
theorem dX5_nearestPot_57 : decode cX5_nearestPot 57 = .ok (.iload 5, 2) := by decide +kernel
theorem dX5_nearestPot_59 : decode cX5_nearestPot 59 = .ok (.iload_n 3, 1) := by decide +kernel
theorem dX5_nearestPot_60 : decode cX5_nearestPot 60 = .ok (.if_icmp .ge 8, 3) := by decide +kernel
theorem dX5_nearestPot_63 : decode cX5_nearestPot 63 = .ok (.iload 5, 2) := by decide +kernel
theorem dX5_nearestPot_65 : decode cX5_nearestPot 65 = .ok (.goto 4, 3) := by decide +kernel
theorem dX5_nearestPot_68 : decode cX5_nearestPot 68 = .ok (.iload_n 3, 1) := by decide +kernel
theorem dX5_nearestPot_69 : decode cX5_nearestPot 69 = .ok (.istore_n 3, 1) := by decide +kernel
theorem dX5_nearestPot_70 : decode cX5_nearestPot 70 = .ok (.iinc 4 1, 3) := by decide +kernel
theorem dX5_nearestPot_73 : decode cX5_nearestPot 73 = .ok (.goto (-63), 3) := by decide +kernel
theorem dX5_nearestPot_76 : decode cX5_nearestPot 76 = .ok (.iload_n 2, 1) := by decide +kernel
theorem dX5_nearestPot_77 : decode cX5_nearestPot 77 = .ok (.ireturn, 1) := by decide +kernel
set_option maxRecDepth 20000 in
theorem ggX5_nearest_X5_isPanel : GoodIn wsX5_nearest wsX5_isPanel := goodIn_r _ [4, 5, 6, 3, 7] (by decide +kernel) (by decide +kernel)
set_option maxRecDepth 20000 in
theorem gX5_nearest_X5_isPanel : GoodIn wsX5_nearest (va_wsS RX5 86 yX5_isPanel wsX5_isPanel) := goodIn_app (goodIn_of _ (by decide +kernel)) ggX5_nearest_X5_isPanel
set_option maxRecDepth 20000 in
theorem ggX5_nearest_X5_in : GoodIn wsX5_nearest wsX5_in := goodIn_r _ [7] (by decide +kernel) (by decide +kernel)
set_option maxRecDepth 20000 in
theorem gX5_nearest_X5_in : GoodIn wsX5_nearest (va_wsS RX5 39 yX5_in wsX5_in) := goodIn_app (goodIn_of _ (by decide +kernel)) ggX5_nearest_X5_in
set_option maxRecDepth 20000 in
theorem ggX5_nearest_X5_nearestPot : GoodIn wsX5_nearest wsX5_nearestPot := goodIn_r _ [11, 12, 13, 3, 14, 15, 16, 17, 18, 19, 20, 21, 22, 23, 24, 25, 26, 27, 28, 29, 30, 31, 32, 33, 34, 35, 36, 37, 38, 39, 40, 41, 42, 43, 44, 45, 46, 47, 48, 49, 50, 51, 52, 53, 54, 55] (by decide +kernel) (by decide +kernel)
set_option maxRecDepth 20000 in
theorem gX5_nearest_X5_nearestPot : GoodIn wsX5_nearest (wsV RX5 178 RX5 yX5_nearestPot wsX5_nearestPot) := goodIn_app (goodIn_of _ (by decide +kernel)) ggX5_nearest_X5_nearestPot
set_option maxRecDepth 20000 in
theorem ggX5_nearest_X5_distanceOf : GoodIn wsX5_nearest wsX5_distanceOf := goodIn_r _ [23, 12, 13, 3, 14, 24, 25, 26, 27, 28, 29, 30, 31, 32, 19, 15, 16, 17, 18, 33, 34, 35, 36, 37, 38, 39, 40, 41, 42, 43, 44, 45, 46, 47, 48, 49, 50, 51, 52, 53, 54, 55] (by decide +kernel) (by decide +kernel)
set_option maxRecDepth 20000 in
theorem gX5_nearest_X5_distanceOf : GoodIn wsX5_nearest (wsV RX5 175 RX5 yX5_distanceOf wsX5_distanceOf) := goodIn_app (goodIn_of _ (by decide +kernel)) ggX5_nearest_X5_distanceOf
theorem dX5_nearest_0 : decode cX5_nearest 0 = .ok (.iload_n 1, 1) := by decide +kernel
theorem dX5_nearest_1 : decode cX5_nearest 1 = .ok (.invokestatic 86, 3) := by decide +kernel
theorem dX5_nearest_4 : decode cX5_nearest 4 = .ok (.ifCond .ne 5, 3) := by decide +kernel
theorem dX5_nearest_7 : decode cX5_nearest 7 = .ok (.iconst (-1), 1) := by decide +kernel
theorem dX5_nearest_8 : decode cX5_nearest 8 = .ok (.ireturn, 1) := by decide +kernel
theorem dX5_nearest_9 : decode cX5_nearest 9 = .ok (.iload_n 2, 1) := by decide +kernel
theorem dX5_nearest_10 : decode cX5_nearest 10 = .ok (.iconst 0, 1) := by decide +kernel
theorem dX5_nearest_11 : decode cX5_nearest 11 = .ok (.iconst 1, 1) := by decide +kernel
theorem dX5_nearest_12 : decode cX5_nearest 12 = .ok (.invokestatic 39, 3) := by decide +kernel
theorem dX5_nearest_15 : decode cX5_nearest 15 = .ok (.ifCond .ne 6, 3) := by decide +kernel
theorem dX5_nearest_18 : decode cX5_nearest 18 = .ok (.bipush (-2), 2) := by decide +kernel
theorem dX5_nearest_20 : decode cX5_nearest 20 = .ok (.ireturn, 1) := by decide +kernel
theorem dX5_nearest_21 : decode cX5_nearest 21 = .ok (.aload_n 0, 1) := by decide +kernel
theorem dX5_nearest_22 : decode cX5_nearest 22 = .ok (.iload_n 1, 1) := by decide +kernel
theorem dX5_nearest_23 : decode cX5_nearest 23 = .ok (.invokevirtual 178, 3) := by decide +kernel
theorem dX5_nearest_26 : decode cX5_nearest 26 = .ok (.istore_n 3, 1) := by decide +kernel
theorem dX5_nearest_27 : decode cX5_nearest 27 = .ok (.iload_n 3, 1) := by decide +kernel
theorem dX5_nearest_28 : decode cX5_nearest 28 = .ok (.bipush (-6), 2) := by decide +kernel
theorem dX5_nearest_30 : decode cX5_nearest 30 = .ok (.if_icmp .eq 7, 3) := by decide +kernel
theorem dX5_nearest_33 : decode cX5_nearest 33 = .ok (.iload_n 2, 1) := by decide +kernel
theorem dX5_nearest_34 : decode cX5_nearest 34 = .ok (.ifCond .ne 7, 3) := by decide +kernel
theorem dX5_nearest_37 : decode cX5_nearest 37 = .ok (.iload_n 3, 1) := by decide +kernel
theorem dX5_nearest_38 : decode cX5_nearest 38 = .ok (.goto 9, 3) := by decide +kernel
theorem dX5_nearest_41 : decode cX5_nearest 41 = .ok (.aload_n 0, 1) := by decide +kernel
theorem dX5_nearest_42 : decode cX5_nearest 42 = .ok (.iload_n 3, 1) := by decide +kernel
theorem dX5_nearest_43 : decode cX5_nearest 43 = .ok (.iload_n 1, 1) := by decide +kernel
theorem dX5_nearest_44 : decode cX5_nearest 44 = .ok (.invokevirtual 175, 3) := by decide +kernel
theorem dX5_nearest_47 : decode cX5_nearest 47 = .ok (.ireturn, 1) := by decide +kernel
set_option maxRecDepth 20000 in
theorem ggX5_bestThinning_X5_isPanel : GoodIn wsX5_bestThinning wsX5_isPanel := goodIn_r _ [6, 7, 8, 5, 9] (by decide +kernel) (by decide +kernel)
set_option maxRecDepth 20000 in
theorem gX5_bestThinning_X5_isPanel : GoodIn wsX5_bestThinning (va_wsS RX5 86 yX5_isPanel wsX5_isPanel) := goodIn_app (goodIn_of _ (by decide +kernel)) ggX5_bestThinning_X5_isPanel
set_option maxRecDepth 20000 in
theorem ggX5_bestThinning_X5_isPot : GoodIn wsX5_bestThinning wsX5_isPot := goodIn_r _ [12, 7, 8, 5, 9] (by decide +kernel) (by decide +kernel)
set_option maxRecDepth 20000 in
theorem gX5_bestThinning_X5_isPot : GoodIn wsX5_bestThinning (va_wsS RX5 75 yX5_isPot wsX5_isPot) := goodIn_app (goodIn_of _ (by decide +kernel)) ggX5_bestThinning_X5_isPot
set_option maxRecDepth 20000 in
theorem ggX5_bestThinning_X5_in : GoodIn wsX5_bestThinning wsX5_in := goodIn_r _ [9] (by decide +kernel) (by decide +kernel)
set_option maxRecDepth 20000 in
theorem gX5_bestThinning_X5_in : GoodIn wsX5_bestThinning (va_wsS RX5 39 yX5_in wsX5_in) := goodIn_app (goodIn_of _ (by decide +kernel)) ggX5_bestThinning_X5_in
set_option maxRecDepth 20000 in
theorem ggX5_bestThinning_X5_p : GoodIn wsX5_bestThinning wsX5_p := goodIn_r _ [15] (by decide +kernel) (by decide +kernel)
set_option maxRecDepth 20000 in
theorem gX5_bestThinning_X5_p : GoodIn wsX5_bestThinning (va_wsS RX5 72 yX5_p wsX5_p) := goodIn_app (goodIn_of _ (by decide +kernel)) ggX5_bestThinning_X5_p
set_option maxRecDepth 20000 in
theorem ggX5_bestThinning_X5_drops : GoodIn wsX5_bestThinning wsX5_drops := goodIn_r _ [19, 2, 30, 31, 32, 33, 34, 35, 36, 37, 38, 39, 40, 41, 42] (by decide +kernel) (by decide +kernel)
set_option maxRecDepth 20000 in
theorem gX5_bestThinning_X5_drops : GoodIn wsX5_bestThinning (wsV RX5 47 RX5 yX5_drops wsX5_drops) := goodIn_app (goodIn_of _ (by decide +kernel)) ggX5_bestThinning_X5_drops
set_option maxRecDepth 20000 in
theorem ggX5_bestThinning_X5_distance : GoodIn wsX5_bestThinning wsX5_distance := goodIn_r _ [23, 1, 2, 24, 25, 5, 26, 27, 28, 29, 30, 31, 32, 33, 34, 35, 36, 37, 38, 39, 40, 41, 42] (by decide +kernel) (by decide +kernel)
set_option maxRecDepth 20000 in
theorem gX5_bestThinning_X5_distance : GoodIn wsX5_bestThinning (wsV RX5 65 RX5 yX5_distance wsX5_distance) := goodIn_app (goodIn_of _ (by decide +kernel)) ggX5_bestThinning_X5_distance
theorem dX5_bestThinning_0 : decode cX5_bestThinning 0 = .ok (.iload_n 1, 1) := by decide +kernel
theorem dX5_bestThinning_1 : decode cX5_bestThinning 1 = .ok (.invokestatic 86, 3) := by decide +kernel
theorem dX5_bestThinning_4 : decode cX5_bestThinning 4 = .ok (.ifCond .eq 10, 3) := by decide +kernel
theorem dX5_bestThinning_7 : decode cX5_bestThinning 7 = .ok (.iload_n 2, 1) := by decide +kernel
theorem dX5_bestThinning_8 : decode cX5_bestThinning 8 = .ok (.invokestatic 75, 3) := by decide +kernel
theorem dX5_bestThinning_11 : decode cX5_bestThinning 11 = .ok (.ifCond .ne 5, 3) := by decide +kernel
theorem dX5_bestThinning_14 : decode cX5_bestThinning 14 = .ok (.iconst (-1), 1) := by decide +kernel
theorem dX5_bestThinning_15 : decode cX5_bestThinning 15 = .ok (.ireturn, 1) := by decide +kernel
theorem dX5_bestThinning_16 : decode cX5_bestThinning 16 = .ok (.iload_n 3, 1) := by decide +kernel
theorem dX5_bestThinning_17 : decode cX5_bestThinning 17 = .ok (.iconst 0, 1) := by decide +kernel
theorem dX5_bestThinning_18 : decode cX5_bestThinning 18 = .ok (.iconst 1, 1) := by decide +kernel
theorem dX5_bestThinning_19 : decode cX5_bestThinning 19 = .ok (.invokestatic 39, 3) := by decide +kernel
theorem dX5_bestThinning_22 : decode cX5_bestThinning 22 = .ok (.ifCond .ne 6, 3) := by decide +kernel
theorem dX5_bestThinning_25 : decode cX5_bestThinning 25 = .ok (.bipush (-2), 2) := by decide +kernel
theorem dX5_bestThinning_27 : decode cX5_bestThinning 27 = .ok (.ireturn, 1) := by decide +kernel
theorem dX5_bestThinning_28 : decode cX5_bestThinning 28 = .ok (.aload_n 0, 1) := by decide +kernel
theorem dX5_bestThinning_29 : decode cX5_bestThinning 29 = .ok (.iload_n 2, 1) := by decide +kernel
theorem dX5_bestThinning_30 : decode cX5_bestThinning 30 = .ok (.invokestatic 72, 3) := by decide +kernel
theorem dX5_bestThinning_33 : decode cX5_bestThinning 33 = .ok (.invokevirtual 47, 3) := by decide +kernel
theorem dX5_bestThinning_36 : decode cX5_bestThinning 36 = .ok (.istore 4, 2) := by decide +kernel
theorem dX5_bestThinning_38 : decode cX5_bestThinning 38 = .ok (.iload 4, 2) := by decide +kernel
theorem dX5_bestThinning_40 : decode cX5_bestThinning 40 = .ok (.ifCond .ne 6, 3) := by decide +kernel
theorem dX5_bestThinning_43 : decode cX5_bestThinning 43 = .ok (.bipush (-5), 2) := by decide +kernel
theorem dX5_bestThinning_45 : decode cX5_bestThinning 45 = .ok (.ireturn, 1) := by decide +kernel
theorem dX5_bestThinning_46 : decode cX5_bestThinning 46 = .ok (.iconst 0, 1) := by decide +kernel
theorem dX5_bestThinning_47 : decode cX5_bestThinning 47 = .ok (.istore 5, 2) := by decide +kernel
theorem dX5_bestThinning_49 : decode cX5_bestThinning 49 = .ok (.sipush 1000, 3) := by decide +kernel
theorem dX5_bestThinning_52 : decode cX5_bestThinning 52 = .ok (.istore 6, 2) := by decide +kernel
theorem dX5_bestThinning_54 : decode cX5_bestThinning 54 = .ok (.iconst 0, 1) := by decide +kernel
theorem dX5_bestThinning_55 : decode cX5_bestThinning 55 = .ok (.istore 7, 2) := by decide +kernel
theorem dX5_bestThinning_57 : decode cX5_bestThinning 57 = .ok (.iload 4, 2) := by decide +kernel
theorem dX5_bestThinning_59 : decode cX5_bestThinning 59 = .ok (.istore 8, 2) := by decide +kernel
theorem dX5_bestThinning_61 : decode cX5_bestThinning 61 = .ok (.iload 8, 2) := by decide +kernel
theorem dX5_bestThinning_63 : decode cX5_bestThinning 63 = .ok (.bipush 81, 2) := by decide +kernel
theorem dX5_bestThinning_65 : decode cX5_bestThinning 65 = .ok (.if_icmp .gt 94, 3) := by decide +kernel
theorem dX5_bestThinning_68 : decode cX5_bestThinning 68 = .ok (.iconst 0, 1) := by decide +kernel
theorem dX5_bestThinning_69 : decode cX5_bestThinning 69 = .ok (.istore 9, 2) := by decide +kernel
theorem dX5_bestThinning_71 : decode cX5_bestThinning 71 = .ok (.iload 9, 2) := by decide +kernel
theorem dX5_bestThinning_73 : decode cX5_bestThinning 73 = .ok (.iconst 3, 1) := by decide +kernel
theorem dX5_bestThinning_74 : decode cX5_bestThinning 74 = .ok (.if_icmp .ge 34, 3) := by decide +kernel
theorem dX5_bestThinning_77 : decode cX5_bestThinning 77 = .ok (.aload_n 0, 1) := by decide +kernel
theorem dX5_bestThinning_78 : decode cX5_bestThinning 78 = .ok (.getfield 29, 3) := by decide +kernel
theorem dX5_bestThinning_81 : decode cX5_bestThinning 81 = .ok (.iload 9, 2) := by decide +kernel
theorem dX5_bestThinning_83 : decode cX5_bestThinning 83 = .ok (.bipush 100, 2) := by decide +kernel
theorem dX5_bestThinning_85 : decode cX5_bestThinning 85 = .ok (.aload_n 0, 1) := by decide +kernel
theorem dX5_bestThinning_86 : decode cX5_bestThinning 86 = .ok (.getfield 7, 3) := by decide +kernel
theorem dX5_bestThinning_89 : decode cX5_bestThinning 89 = .ok (.iload_n 2, 1) := by decide +kernel
theorem dX5_bestThinning_90 : decode cX5_bestThinning 90 = .ok (.invokestatic 72, 3) := by decide +kernel
theorem dX5_bestThinning_93 : decode cX5_bestThinning 93 = .ok (.iload 9, 2) := by decide +kernel
theorem dX5_bestThinning_95 : decode cX5_bestThinning 95 = .ok (.iadd, 1) := by decide +kernel
theorem dX5_bestThinning_96 : decode cX5_bestThinning 96 = .ok (.iaload, 1) := by decide +kernel
theorem dX5_bestThinning_97 : decode cX5_bestThinning 97 = .ok (.imul, 1) := by decide +kernel
theorem dX5_bestThinning_98 : decode cX5_bestThinning 98 = .ok (.iload 8, 2) := by decide +kernel
theorem dX5_bestThinning_100 : decode cX5_bestThinning 100 = .ok (.idiv, 1) := by decide +kernel
theorem dX5_bestThinning_101 : decode cX5_bestThinning 101 = .ok (.iastore, 1) := by decide +kernel
theorem dX5_bestThinning_102 : decode cX5_bestThinning 102 = .ok (.iinc 9 1, 3) := by decide +kernel
theorem dX5_bestThinning_105 : decode cX5_bestThinning 105 = .ok (.goto (-34), 3) := by decide +kernel
theorem dX5_bestThinning_108 : decode cX5_bestThinning 108 = .ok (.aload_n 0, 1) := by decide +kernel
theorem dX5_bestThinning_109 : decode cX5_bestThinning 109 = .ok (.iload_n 1, 1) := by decide +kernel
theorem dX5_bestThinning_110 : decode cX5_bestThinning 110 = .ok (.invokevirtual 65, 3) := by decide +kernel
theorem dX5_bestThinning_113 : decode cX5_bestThinning 113 = .ok (.istore 9, 2) := by decide +kernel
theorem dX5_bestThinning_115 : decode cX5_bestThinning 115 = .ok (.iload 9, 2) := by decide +kernel
theorem dX5_bestThinning_117 : decode cX5_bestThinning 117 = .ok (.iload 6, 2) := by decide +kernel
theorem dX5_bestThinning_119 : decode cX5_bestThinning 119 = .ok (.if_icmp .ge 8, 3) := by decide +kernel
theorem dX5_bestThinning_122 : decode cX5_bestThinning 122 = .ok (.iload 7, 2) := by decide +kernel
theorem dX5_bestThinning_124 : decode cX5_bestThinning 124 = .ok (.goto 5, 3) := by decide +kernel
theorem dX5_bestThinning_127 : decode cX5_bestThinning 127 = .ok (.iload 5, 2) := by decide +kernel
theorem dX5_bestThinning_129 : decode cX5_bestThinning 129 = .ok (.istore 5, 2) := by decide +kernel
theorem dX5_bestThinning_131 : decode cX5_bestThinning 131 = .ok (.iload 9, 2) := by decide +kernel
theorem dX5_bestThinning_133 : decode cX5_bestThinning 133 = .ok (.iload 6, 2) := by decide +kernel
theorem dX5_bestThinning_135 : decode cX5_bestThinning 135 = .ok (.if_icmp .ge 8, 3) := by decide +kernel
theorem dX5_bestThinning_138 : decode cX5_bestThinning 138 = .ok (.iload 9, 2) := by decide +kernel
theorem dX5_bestThinning_140 : decode cX5_bestThinning 140 = .ok (.goto 5, 3) := by decide +kernel
theorem dX5_bestThinning_143 : decode cX5_bestThinning 143 = .ok (.iload 6, 2) := by decide +kernel
theorem dX5_bestThinning_145 : decode cX5_bestThinning 145 = .ok (.istore 6, 2) := by decide +kernel
theorem dX5_bestThinning_147 : decode cX5_bestThinning 147 = .ok (.iinc 7 1, 3) := by decide +kernel
theorem dX5_bestThinning_150 : decode cX5_bestThinning 150 = .ok (.iload 8, 2) := by decide +kernel
theorem dX5_bestThinning_152 : decode cX5_bestThinning 152 = .ok (.iconst 3, 1) := by decide +kernel
theorem dX5_bestThinning_153 : decode cX5_bestThinning 153 = .ok (.imul, 1) := by decide +kernel
theorem dX5_bestThinning_154 : decode cX5_bestThinning 154 = .ok (.istore 8, 2) := by decide +kernel
theorem dX5_bestThinning_156 : decode cX5_bestThinning 156 = .ok (.goto (-95), 3) := by decide +kernel
theorem dX5_bestThinning_159 : decode cX5_bestThinning 159 = .ok (.iload_n 3, 1) := by decide +kernel
theorem dX5_bestThinning_160 : decode cX5_bestThinning 160 = .ok (.ifCond .ne 8, 3) := by decide +kernel
theorem dX5_bestThinning_163 : decode cX5_bestThinning 163 = .ok (.iload 5, 2) := by decide +kernel
theorem dX5_bestThinning_165 : decode cX5_bestThinning 165 = .ok (.goto 5, 3) := by decide +kernel
theorem dX5_bestThinning_168 : decode cX5_bestThinning 168 = .ok (.iload 6, 2) := by decide +kernel
theorem dX5_bestThinning_170 : decode cX5_bestThinning 170 = .ok (.ireturn, 1) := by decide +kernel
set_option maxRecDepth 20000 in
theorem ggX5_mixed_X5_p : GoodIn wsX5_mixed wsX5_p := goodIn_r _ [6] (by decide +kernel) (by decide +kernel)
set_option maxRecDepth 20000 in
theorem gX5_mixed_X5_p : GoodIn wsX5_mixed (va_wsS RX5 72 yX5_p wsX5_p) := goodIn_app (goodIn_of _ (by decide +kernel)) ggX5_mixed_X5_p
set_option maxRecDepth 20000 in
theorem ggX5_mixed_X5_drops : GoodIn wsX5_mixed wsX5_drops := goodIn_r _ [10, 1, 21, 22, 23, 24, 25, 26, 27, 28, 29, 30, 31, 32, 33] (by decide +kernel) (by decide +kernel)
set_option maxRecDepth 20000 in
theorem gX5_mixed_X5_drops : GoodIn wsX5_mixed (wsV RX5 47 RX5 yX5_drops wsX5_drops) := goodIn_app (goodIn_of _ (by decide +kernel)) ggX5_mixed_X5_drops
set_option maxRecDepth 20000 in
theorem ggX5_mixed_X5_distance : GoodIn wsX5_mixed wsX5_distance := goodIn_r _ [14, 2, 1, 15, 16, 5, 17, 18, 19, 20, 21, 22, 23, 24, 25, 26, 27, 28, 29, 30, 31, 32, 33] (by decide +kernel) (by decide +kernel)
set_option maxRecDepth 20000 in
theorem gX5_mixed_X5_distance : GoodIn wsX5_mixed (wsV RX5 65 RX5 yX5_distance wsX5_distance) := goodIn_app (goodIn_of _ (by decide +kernel)) ggX5_mixed_X5_distance
theorem dX5_mixed_0 : decode cX5_mixed 0 = .ok (.aload_n 0, 1) := by decide +kernel
theorem dX5_mixed_1 : decode cX5_mixed 1 = .ok (.iload_n 2, 1) := by decide +kernel
theorem dX5_mixed_2 : decode cX5_mixed 2 = .ok (.invokestatic 72, 3) := by decide +kernel
theorem dX5_mixed_5 : decode cX5_mixed 5 = .ok (.invokevirtual 47, 3) := by decide +kernel
theorem dX5_mixed_8 : decode cX5_mixed 8 = .ok (.istore 6, 2) := by decide +kernel
theorem dX5_mixed_10 : decode cX5_mixed 10 = .ok (.aload_n 0, 1) := by decide +kernel
theorem dX5_mixed_11 : decode cX5_mixed 11 = .ok (.iload_n 3, 1) := by decide +kernel
theorem dX5_mixed_12 : decode cX5_mixed 12 = .ok (.invokestatic 72, 3) := by decide +kernel
theorem dX5_mixed_15 : decode cX5_mixed 15 = .ok (.invokevirtual 47, 3) := by decide +kernel
theorem dX5_mixed_18 : decode cX5_mixed 18 = .ok (.istore 7, 2) := by decide +kernel
theorem dX5_mixed_20 : decode cX5_mixed 20 = .ok (.iconst 0, 1) := by decide +kernel
theorem dX5_mixed_21 : decode cX5_mixed 21 = .ok (.istore 8, 2) := by decide +kernel
theorem dX5_mixed_23 : decode cX5_mixed 23 = .ok (.iload 8, 2) := by decide +kernel
theorem dX5_mixed_25 : decode cX5_mixed 25 = .ok (.iconst 3, 1) := by decide +kernel
theorem dX5_mixed_26 : decode cX5_mixed 26 = .ok (.if_icmp .ge 72, 3) := by decide +kernel
theorem dX5_mixed_29 : decode cX5_mixed 29 = .ok (.aload_n 0, 1) := by decide +kernel
theorem dX5_mixed_30 : decode cX5_mixed 30 = .ok (.getfield 7, 3) := by decide +kernel
theorem dX5_mixed_33 : decode cX5_mixed 33 = .ok (.iload_n 2, 1) := by decide +kernel
theorem dX5_mixed_34 : decode cX5_mixed 34 = .ok (.invokestatic 72, 3) := by decide +kernel
theorem dX5_mixed_37 : decode cX5_mixed 37 = .ok (.iload 8, 2) := by decide +kernel
theorem dX5_mixed_39 : decode cX5_mixed 39 = .ok (.iadd, 1) := by decide +kernel
theorem dX5_mixed_40 : decode cX5_mixed 40 = .ok (.iaload, 1) := by decide +kernel
theorem dX5_mixed_41 : decode cX5_mixed 41 = .ok (.iload 4, 2) := by decide +kernel
theorem dX5_mixed_43 : decode cX5_mixed 43 = .ok (.imul, 1) := by decide +kernel
theorem dX5_mixed_44 : decode cX5_mixed 44 = .ok (.iload 7, 2) := by decide +kernel
theorem dX5_mixed_46 : decode cX5_mixed 46 = .ok (.imul, 1) := by decide +kernel
theorem dX5_mixed_47 : decode cX5_mixed 47 = .ok (.aload_n 0, 1) := by decide +kernel
theorem dX5_mixed_48 : decode cX5_mixed 48 = .ok (.getfield 7, 3) := by decide +kernel
theorem dX5_mixed_51 : decode cX5_mixed 51 = .ok (.iload_n 3, 1) := by decide +kernel
theorem dX5_mixed_52 : decode cX5_mixed 52 = .ok (.invokestatic 72, 3) := by decide +kernel
theorem dX5_mixed_55 : decode cX5_mixed 55 = .ok (.iload 8, 2) := by decide +kernel
theorem dX5_mixed_57 : decode cX5_mixed 57 = .ok (.iadd, 1) := by decide +kernel
theorem dX5_mixed_58 : decode cX5_mixed 58 = .ok (.iaload, 1) := by decide +kernel
theorem dX5_mixed_59 : decode cX5_mixed 59 = .ok (.iload 5, 2) := by decide +kernel
theorem dX5_mixed_61 : decode cX5_mixed 61 = .ok (.imul, 1) := by decide +kernel
theorem dX5_mixed_62 : decode cX5_mixed 62 = .ok (.iload 6, 2) := by decide +kernel
theorem dX5_mixed_64 : decode cX5_mixed 64 = .ok (.imul, 1) := by decide +kernel
theorem dX5_mixed_65 : decode cX5_mixed 65 = .ok (.iadd, 1) := by decide +kernel
theorem dX5_mixed_66 : decode cX5_mixed 66 = .ok (.istore 9, 2) := by decide +kernel
theorem dX5_mixed_68 : decode cX5_mixed 68 = .ok (.aload_n 0, 1) := by decide +kernel
theorem dX5_mixed_69 : decode cX5_mixed 69 = .ok (.getfield 29, 3) := by decide +kernel
theorem dX5_mixed_72 : decode cX5_mixed 72 = .ok (.iload 8, 2) := by decide +kernel
theorem dX5_mixed_74 : decode cX5_mixed 74 = .ok (.bipush 100, 2) := by decide +kernel
theorem dX5_mixed_76 : decode cX5_mixed 76 = .ok (.iload 9, 2) := by decide +kernel
theorem dX5_mixed_78 : decode cX5_mixed 78 = .ok (.imul, 1) := by decide +kernel
theorem dX5_mixed_79 : decode cX5_mixed 79 = .ok (.iload 6, 2) := by decide +kernel
theorem dX5_mixed_81 : decode cX5_mixed 81 = .ok (.iload 7, 2) := by decide +kernel
theorem dX5_mixed_83 : decode cX5_mixed 83 = .ok (.imul, 1) := by decide +kernel
theorem dX5_mixed_84 : decode cX5_mixed 84 = .ok (.iload 4, 2) := by decide +kernel
theorem dX5_mixed_86 : decode cX5_mixed 86 = .ok (.iload 5, 2) := by decide +kernel
theorem dX5_mixed_88 : decode cX5_mixed 88 = .ok (.iadd, 1) := by decide +kernel
theorem dX5_mixed_89 : decode cX5_mixed 89 = .ok (.imul, 1) := by decide +kernel
theorem dX5_mixed_90 : decode cX5_mixed 90 = .ok (.idiv, 1) := by decide +kernel
theorem dX5_mixed_91 : decode cX5_mixed 91 = .ok (.iastore, 1) := by decide +kernel
theorem dX5_mixed_92 : decode cX5_mixed 92 = .ok (.iinc 8 1, 3) := by decide +kernel
theorem dX5_mixed_95 : decode cX5_mixed 95 = .ok (.goto (-72), 3) := by decide +kernel
theorem dX5_mixed_98 : decode cX5_mixed 98 = .ok (.aload_n 0, 1) := by decide +kernel
theorem dX5_mixed_99 : decode cX5_mixed 99 = .ok (.iload_n 1, 1) := by decide +kernel
theorem dX5_mixed_100 : decode cX5_mixed 100 = .ok (.invokevirtual 65, 3) := by decide +kernel
theorem dX5_mixed_103 : decode cX5_mixed 103 = .ok (.ireturn, 1) := by decide +kernel
set_option maxRecDepth 20000 in
theorem ggX5_bestMixture_X5_isPanel : GoodIn wsX5_bestMixture wsX5_isPanel := goodIn_r _ [4, 5, 6, 3, 7] (by decide +kernel) (by decide +kernel)
set_option maxRecDepth 20000 in
theorem gX5_bestMixture_X5_isPanel : GoodIn wsX5_bestMixture (va_wsS RX5 86 yX5_isPanel wsX5_isPanel) := goodIn_app (goodIn_of _ (by decide +kernel)) ggX5_bestMixture_X5_isPanel
set_option maxRecDepth 20000 in
theorem ggX5_bestMixture_X5_in : GoodIn wsX5_bestMixture wsX5_in := goodIn_r _ [7] (by decide +kernel) (by decide +kernel)
set_option maxRecDepth 20000 in
theorem gX5_bestMixture_X5_in : GoodIn wsX5_bestMixture (va_wsS RX5 39 yX5_in wsX5_in) := goodIn_app (goodIn_of _ (by decide +kernel)) ggX5_bestMixture_X5_in
set_option maxRecDepth 20000 in
theorem ggX5_bestMixture_X5_p : GoodIn wsX5_bestMixture wsX5_p := goodIn_r _ [10] (by decide +kernel) (by decide +kernel)
set_option maxRecDepth 20000 in
theorem gX5_bestMixture_X5_p : GoodIn wsX5_bestMixture (va_wsS RX5 72 yX5_p wsX5_p) := goodIn_app (goodIn_of _ (by decide +kernel)) ggX5_bestMixture_X5_p
set_option maxRecDepth 20000 in
theorem ggX5_bestMixture_X5_drops : GoodIn wsX5_bestMixture wsX5_drops := goodIn_r _ [14, 15, 31, 32, 33, 34, 35, 36, 37, 38, 39, 40, 41, 42, 43] (by decide +kernel) (by decide +kernel)
set_option maxRecDepth 20000 in
theorem gX5_bestMixture_X5_drops : GoodIn wsX5_bestMixture (wsV RX5 47 RX5 yX5_drops wsX5_drops) := goodIn_app (goodIn_of _ (by decide +kernel)) ggX5_bestMixture_X5_drops
set_option maxRecDepth 20000 in
theorem ggX5_bestMixture_X5_mixed : GoodIn wsX5_bestMixture wsX5_mixed := goodIn_r _ [19, 15, 20, 8, 9, 3, 10, 11, 12, 13, 14, 21, 22, 23, 24, 25, 26, 27, 28, 29, 30, 31, 32, 33, 34, 35, 36, 37, 38, 39, 40, 41, 42, 43] (by decide +kernel) (by decide +kernel)
set_option maxRecDepth 20000 in
theorem gX5_bestMixture_X5_mixed : GoodIn wsX5_bestMixture (wsV RX5 181 RX5 yX5_mixed wsX5_mixed) := goodIn_app (goodIn_of _ (by decide +kernel)) ggX5_bestMixture_X5_mixed
theorem dX5_bestMixture_0 : decode cX5_bestMixture 0 = .ok (.iload_n 1, 1) := by decide +kernel
theorem dX5_bestMixture_1 : decode cX5_bestMixture 1 = .ok (.invokestatic 86, 3) := by decide +kernel
theorem dX5_bestMixture_4 : decode cX5_bestMixture 4 = .ok (.ifCond .ne 5, 3) := by decide +kernel
theorem dX5_bestMixture_7 : decode cX5_bestMixture 7 = .ok (.iconst (-1), 1) := by decide +kernel
theorem dX5_bestMixture_8 : decode cX5_bestMixture 8 = .ok (.ireturn, 1) := by decide +kernel
theorem dX5_bestMixture_9 : decode cX5_bestMixture 9 = .ok (.iload_n 2, 1) := by decide +kernel
theorem dX5_bestMixture_10 : decode cX5_bestMixture 10 = .ok (.iconst 0, 1) := by decide +kernel
theorem dX5_bestMixture_11 : decode cX5_bestMixture 11 = .ok (.iconst 4, 1) := by decide +kernel
theorem dX5_bestMixture_12 : decode cX5_bestMixture 12 = .ok (.invokestatic 39, 3) := by decide +kernel
theorem dX5_bestMixture_15 : decode cX5_bestMixture 15 = .ok (.ifCond .ne 6, 3) := by decide +kernel
theorem dX5_bestMixture_18 : decode cX5_bestMixture 18 = .ok (.bipush (-2), 2) := by decide +kernel
theorem dX5_bestMixture_20 : decode cX5_bestMixture 20 = .ok (.ireturn, 1) := by decide +kernel
theorem dX5_bestMixture_21 : decode cX5_bestMixture 21 = .ok (.bipush (-6), 2) := by decide +kernel
theorem dX5_bestMixture_23 : decode cX5_bestMixture 23 = .ok (.istore_n 3, 1) := by decide +kernel
theorem dX5_bestMixture_24 : decode cX5_bestMixture 24 = .ok (.sipush 1000, 3) := by decide +kernel
theorem dX5_bestMixture_27 : decode cX5_bestMixture 27 = .ok (.istore 4, 2) := by decide +kernel
theorem dX5_bestMixture_29 : decode cX5_bestMixture 29 = .ok (.iconst 0, 1) := by decide +kernel
theorem dX5_bestMixture_30 : decode cX5_bestMixture 30 = .ok (.istore 5, 2) := by decide +kernel
theorem dX5_bestMixture_32 : decode cX5_bestMixture 32 = .ok (.iload 5, 2) := by decide +kernel
theorem dX5_bestMixture_34 : decode cX5_bestMixture 34 = .ok (.bipush 64, 2) := by decide +kernel
theorem dX5_bestMixture_36 : decode cX5_bestMixture 36 = .ok (.if_icmp .ge 147, 3) := by decide +kernel
theorem dX5_bestMixture_39 : decode cX5_bestMixture 39 = .ok (.iload 5, 2) := by decide +kernel
theorem dX5_bestMixture_41 : decode cX5_bestMixture 41 = .ok (.bipush 8, 2) := by decide +kernel
theorem dX5_bestMixture_43 : decode cX5_bestMixture 43 = .ok (.idiv, 1) := by decide +kernel
theorem dX5_bestMixture_44 : decode cX5_bestMixture 44 = .ok (.iload 5, 2) := by decide +kernel
theorem dX5_bestMixture_46 : decode cX5_bestMixture 46 = .ok (.bipush 8, 2) := by decide +kernel
theorem dX5_bestMixture_48 : decode cX5_bestMixture 48 = .ok (.irem, 1) := by decide +kernel
theorem dX5_bestMixture_49 : decode cX5_bestMixture 49 = .ok (.if_icmp .ge 37, 3) := by decide +kernel
theorem dX5_bestMixture_52 : decode cX5_bestMixture 52 = .ok (.aload_n 0, 1) := by decide +kernel
theorem dX5_bestMixture_53 : decode cX5_bestMixture 53 = .ok (.iload 5, 2) := by decide +kernel
theorem dX5_bestMixture_55 : decode cX5_bestMixture 55 = .ok (.bipush 8, 2) := by decide +kernel
theorem dX5_bestMixture_57 : decode cX5_bestMixture 57 = .ok (.idiv, 1) := by decide +kernel
theorem dX5_bestMixture_58 : decode cX5_bestMixture 58 = .ok (.invokestatic 72, 3) := by decide +kernel
theorem dX5_bestMixture_61 : decode cX5_bestMixture 61 = .ok (.invokevirtual 47, 3) := by decide +kernel
theorem dX5_bestMixture_64 : decode cX5_bestMixture 64 = .ok (.ifCond .le 22, 3) := by decide +kernel
theorem dX5_bestMixture_67 : decode cX5_bestMixture 67 = .ok (.aload_n 0, 1) := by decide +kernel
theorem dX5_bestMixture_68 : decode cX5_bestMixture 68 = .ok (.iload 5, 2) := by decide +kernel
theorem dX5_bestMixture_70 : decode cX5_bestMixture 70 = .ok (.bipush 8, 2) := by decide +kernel
theorem dX5_bestMixture_72 : decode cX5_bestMixture 72 = .ok (.irem, 1) := by decide +kernel
theorem dX5_bestMixture_73 : decode cX5_bestMixture 73 = .ok (.invokestatic 72, 3) := by decide +kernel
theorem dX5_bestMixture_76 : decode cX5_bestMixture 76 = .ok (.invokevirtual 47, 3) := by decide +kernel
theorem dX5_bestMixture_79 : decode cX5_bestMixture 79 = .ok (.ifCond .le 7, 3) := by decide +kernel
theorem dX5_bestMixture_82 : decode cX5_bestMixture 82 = .ok (.iconst 1, 1) := by decide +kernel
theorem dX5_bestMixture_83 : decode cX5_bestMixture 83 = .ok (.goto 4, 3) := by decide +kernel
theorem dX5_bestMixture_86 : decode cX5_bestMixture 86 = .ok (.iconst 0, 1) := by decide +kernel
theorem dX5_bestMixture_87 : decode cX5_bestMixture 87 = .ok (.istore 6, 2) := by decide +kernel
theorem dX5_bestMixture_89 : decode cX5_bestMixture 89 = .ok (.iconst 0, 1) := by decide +kernel
theorem dX5_bestMixture_90 : decode cX5_bestMixture 90 = .ok (.istore 7, 2) := by decide +kernel
theorem dX5_bestMixture_92 : decode cX5_bestMixture 92 = .ok (.iload 7, 2) := by decide +kernel
theorem dX5_bestMixture_94 : decode cX5_bestMixture 94 = .ok (.bipush 81, 2) := by decide +kernel
theorem dX5_bestMixture_96 : decode cX5_bestMixture 96 = .ok (.if_icmp .ge 81, 3) := by decide +kernel
theorem dX5_bestMixture_99 : decode cX5_bestMixture 99 = .ok (.iload 6, 2) := by decide +kernel
theorem dX5_bestMixture_101 : decode cX5_bestMixture 101 = .ok (.ifCond .eq 76, 3) := by decide +kernel
theorem dX5_bestMixture_104 : decode cX5_bestMixture 104 = .ok (.aload_n 0, 1) := by decide +kernel
theorem dX5_bestMixture_105 : decode cX5_bestMixture 105 = .ok (.iload_n 1, 1) := by decide +kernel
theorem dX5_bestMixture_106 : decode cX5_bestMixture 106 = .ok (.iload 5, 2) := by decide +kernel
theorem dX5_bestMixture_108 : decode cX5_bestMixture 108 = .ok (.bipush 8, 2) := by decide +kernel
theorem dX5_bestMixture_110 : decode cX5_bestMixture 110 = .ok (.idiv, 1) := by decide +kernel
theorem dX5_bestMixture_111 : decode cX5_bestMixture 111 = .ok (.iload 5, 2) := by decide +kernel
theorem dX5_bestMixture_113 : decode cX5_bestMixture 113 = .ok (.bipush 8, 2) := by decide +kernel
theorem dX5_bestMixture_115 : decode cX5_bestMixture 115 = .ok (.irem, 1) := by decide +kernel
theorem dX5_bestMixture_116 : decode cX5_bestMixture 116 = .ok (.iconst 1, 1) := by decide +kernel
theorem dX5_bestMixture_117 : decode cX5_bestMixture 117 = .ok (.iload 7, 2) := by decide +kernel
theorem dX5_bestMixture_119 : decode cX5_bestMixture 119 = .ok (.bipush 9, 2) := by decide +kernel
theorem dX5_bestMixture_121 : decode cX5_bestMixture 121 = .ok (.idiv, 1) := by decide +kernel
theorem dX5_bestMixture_122 : decode cX5_bestMixture 122 = .ok (.iadd, 1) := by decide +kernel
theorem dX5_bestMixture_123 : decode cX5_bestMixture 123 = .ok (.iconst 1, 1) := by decide +kernel
theorem dX5_bestMixture_124 : decode cX5_bestMixture 124 = .ok (.iload 7, 2) := by decide +kernel
theorem dX5_bestMixture_126 : decode cX5_bestMixture 126 = .ok (.bipush 9, 2) := by decide +kernel
theorem dX5_bestMixture_128 : decode cX5_bestMixture 128 = .ok (.irem, 1) := by decide +kernel
theorem dX5_bestMixture_129 : decode cX5_bestMixture 129 = .ok (.iadd, 1) := by decide +kernel
theorem dX5_bestMixture_130 : decode cX5_bestMixture 130 = .ok (.invokevirtual 181, 3) := by decide +kernel
theorem dX5_bestMixture_133 : decode cX5_bestMixture 133 = .ok (.istore 8, 2) := by decide +kernel
theorem dX5_bestMixture_135 : decode cX5_bestMixture 135 = .ok (.iload 8, 2) := by decide +kernel
theorem dX5_bestMixture_137 : decode cX5_bestMixture 137 = .ok (.iload 4, 2) := by decide +kernel
theorem dX5_bestMixture_139 : decode cX5_bestMixture 139 = .ok (.if_icmp .ge 14, 3) := by decide +kernel
theorem dX5_bestMixture_142 : decode cX5_bestMixture 142 = .ok (.bipush 81, 2) := by decide +kernel
theorem dX5_bestMixture_144 : decode cX5_bestMixture 144 = .ok (.iload 5, 2) := by decide +kernel
theorem dX5_bestMixture_146 : decode cX5_bestMixture 146 = .ok (.imul, 1) := by decide +kernel
theorem dX5_bestMixture_147 : decode cX5_bestMixture 147 = .ok (.iload 7, 2) := by decide +kernel
theorem dX5_bestMixture_149 : decode cX5_bestMixture 149 = .ok (.iadd, 1) := by decide +kernel
theorem dX5_bestMixture_150 : decode cX5_bestMixture 150 = .ok (.goto 4, 3) := by decide +kernel
theorem dX5_bestMixture_153 : decode cX5_bestMixture 153 = .ok (.iload_n 3, 1) := by decide +kernel
theorem dX5_bestMixture_154 : decode cX5_bestMixture 154 = .ok (.istore_n 3, 1) := by decide +kernel
theorem dX5_bestMixture_155 : decode cX5_bestMixture 155 = .ok (.iload 8, 2) := by decide +kernel
theorem dX5_bestMixture_157 : decode cX5_bestMixture 157 = .ok (.iload 4, 2) := by decide +kernel
theorem dX5_bestMixture_159 : decode cX5_bestMixture 159 = .ok (.if_icmp .ge 8, 3) := by decide +kernel
theorem dX5_bestMixture_162 : decode cX5_bestMixture 162 = .ok (.iload 8, 2) := by decide +kernel
theorem dX5_bestMixture_164 : decode cX5_bestMixture 164 = .ok (.goto 5, 3) := by decide +kernel
theorem dX5_bestMixture_167 : decode cX5_bestMixture 167 = .ok (.iload 4, 2) := by decide +kernel
theorem dX5_bestMixture_169 : decode cX5_bestMixture 169 = .ok (.istore 4, 2) := by decide +kernel
theorem dX5_bestMixture_171 : decode cX5_bestMixture 171 = .ok (.iinc 7 1, 3) := by decide +kernel
theorem dX5_bestMixture_174 : decode cX5_bestMixture 174 = .ok (.goto (-82), 3) := by decide +kernel
theorem dX5_bestMixture_177 : decode cX5_bestMixture 177 = .ok (.iinc 5 1, 3) := by decide +kernel
theorem dX5_bestMixture_180 : decode cX5_bestMixture 180 = .ok (.goto (-148), 3) := by decide +kernel
theorem dX5_bestMixture_183 : decode cX5_bestMixture 183 = .ok (.iload_n 3, 1) := by decide +kernel
theorem dX5_bestMixture_184 : decode cX5_bestMixture 184 = .ok (.bipush (-6), 2) := by decide +kernel
theorem dX5_bestMixture_186 : decode cX5_bestMixture 186 = .ok (.if_icmp .ne 6, 3) := by decide +kernel
theorem dX5_bestMixture_189 : decode cX5_bestMixture 189 = .ok (.bipush (-6), 2) := by decide +kernel
theorem dX5_bestMixture_191 : decode cX5_bestMixture 191 = .ok (.ireturn, 1) := by decide +kernel
theorem dX5_bestMixture_192 : decode cX5_bestMixture 192 = .ok (.iload_n 3, 1) := by decide +kernel
theorem dX5_bestMixture_193 : decode cX5_bestMixture 193 = .ok (.bipush 81, 2) := by decide +kernel
theorem dX5_bestMixture_195 : decode cX5_bestMixture 195 = .ok (.idiv, 1) := by decide +kernel
theorem dX5_bestMixture_196 : decode cX5_bestMixture 196 = .ok (.istore 5, 2) := by decide +kernel
theorem dX5_bestMixture_198 : decode cX5_bestMixture 198 = .ok (.iload_n 3, 1) := by decide +kernel
theorem dX5_bestMixture_199 : decode cX5_bestMixture 199 = .ok (.bipush 81, 2) := by decide +kernel
theorem dX5_bestMixture_201 : decode cX5_bestMixture 201 = .ok (.irem, 1) := by decide +kernel
theorem dX5_bestMixture_202 : decode cX5_bestMixture 202 = .ok (.istore 6, 2) := by decide +kernel
theorem dX5_bestMixture_204 : decode cX5_bestMixture 204 = .ok (.iload_n 2, 1) := by decide +kernel
theorem dX5_bestMixture_205 : decode cX5_bestMixture 205 = .ok (.ifCond .ne 11, 3) := by decide +kernel
theorem dX5_bestMixture_208 : decode cX5_bestMixture 208 = .ok (.iload 5, 2) := by decide +kernel
theorem dX5_bestMixture_210 : decode cX5_bestMixture 210 = .ok (.bipush 8, 2) := by decide +kernel
theorem dX5_bestMixture_212 : decode cX5_bestMixture 212 = .ok (.idiv, 1) := by decide +kernel
theorem dX5_bestMixture_213 : decode cX5_bestMixture 213 = .ok (.goto 48, 3) := by decide +kernel
theorem dX5_bestMixture_216 : decode cX5_bestMixture 216 = .ok (.iload_n 2, 1) := by decide +kernel
theorem dX5_bestMixture_217 : decode cX5_bestMixture 217 = .ok (.iconst 1, 1) := by decide +kernel
theorem dX5_bestMixture_218 : decode cX5_bestMixture 218 = .ok (.if_icmp .ne 11, 3) := by decide +kernel
theorem dX5_bestMixture_221 : decode cX5_bestMixture 221 = .ok (.iload 5, 2) := by decide +kernel
theorem dX5_bestMixture_223 : decode cX5_bestMixture 223 = .ok (.bipush 8, 2) := by decide +kernel
theorem dX5_bestMixture_225 : decode cX5_bestMixture 225 = .ok (.irem, 1) := by decide +kernel
theorem dX5_bestMixture_226 : decode cX5_bestMixture 226 = .ok (.goto 35, 3) := by decide +kernel
theorem dX5_bestMixture_229 : decode cX5_bestMixture 229 = .ok (.iload_n 2, 1) := by decide +kernel
theorem dX5_bestMixture_230 : decode cX5_bestMixture 230 = .ok (.iconst 2, 1) := by decide +kernel
theorem dX5_bestMixture_231 : decode cX5_bestMixture 231 = .ok (.if_icmp .ne 13, 3) := by decide +kernel
theorem dX5_bestMixture_234 : decode cX5_bestMixture 234 = .ok (.iconst 1, 1) := by decide +kernel
theorem dX5_bestMixture_235 : decode cX5_bestMixture 235 = .ok (.iload 6, 2) := by decide +kernel
theorem dX5_bestMixture_237 : decode cX5_bestMixture 237 = .ok (.bipush 9, 2) := by decide +kernel
theorem dX5_bestMixture_239 : decode cX5_bestMixture 239 = .ok (.idiv, 1) := by decide +kernel
theorem dX5_bestMixture_240 : decode cX5_bestMixture 240 = .ok (.iadd, 1) := by decide +kernel
theorem dX5_bestMixture_241 : decode cX5_bestMixture 241 = .ok (.goto 20, 3) := by decide +kernel
theorem dX5_bestMixture_244 : decode cX5_bestMixture 244 = .ok (.iload_n 2, 1) := by decide +kernel
theorem dX5_bestMixture_245 : decode cX5_bestMixture 245 = .ok (.iconst 3, 1) := by decide +kernel
theorem dX5_bestMixture_246 : decode cX5_bestMixture 246 = .ok (.if_icmp .ne 13, 3) := by decide +kernel
theorem dX5_bestMixture_249 : decode cX5_bestMixture 249 = .ok (.iconst 1, 1) := by decide +kernel
theorem dX5_bestMixture_250 : decode cX5_bestMixture 250 = .ok (.iload 6, 2) := by decide +kernel
theorem dX5_bestMixture_252 : decode cX5_bestMixture 252 = .ok (.bipush 9, 2) := by decide +kernel
theorem dX5_bestMixture_254 : decode cX5_bestMixture 254 = .ok (.irem, 1) := by decide +kernel
theorem dX5_bestMixture_255 : decode cX5_bestMixture 255 = .ok (.iadd, 1) := by decide +kernel
theorem dX5_bestMixture_256 : decode cX5_bestMixture 256 = .ok (.goto 5, 3) := by decide +kernel
theorem dX5_bestMixture_259 : decode cX5_bestMixture 259 = .ok (.iload 4, 2) := by decide +kernel
theorem dX5_bestMixture_261 : decode cX5_bestMixture 261 = .ok (.ireturn, 1) := by decide +kernel
set_option maxRecDepth 20000 in
theorem ggX5_rinses_X5_isPanel : GoodIn wsX5_rinses wsX5_isPanel := goodIn_r _ [4, 5, 6, 3, 7] (by decide +kernel) (by decide +kernel)
set_option maxRecDepth 20000 in
theorem gX5_rinses_X5_isPanel : GoodIn wsX5_rinses (va_wsS RX5 86 yX5_isPanel wsX5_isPanel) := goodIn_app (goodIn_of _ (by decide +kernel)) ggX5_rinses_X5_isPanel
set_option maxRecDepth 20000 in
theorem ggX5_rinses_X5_inPots : GoodIn wsX5_rinses wsX5_inPots := goodIn_r _ [11, 12, 13, 3, 14, 15, 16, 17, 18, 19, 47, 48, 49, 50, 51, 52, 53, 54, 55, 56, 57, 58, 59] (by decide +kernel) (by decide +kernel)
set_option maxRecDepth 20000 in
theorem gX5_rinses_X5_inPots : GoodIn wsX5_rinses (wsV RX5 169 RX5 yX5_inPots wsX5_inPots) := goodIn_app (goodIn_of _ (by decide +kernel)) ggX5_rinses_X5_inPots
set_option maxRecDepth 20000 in
theorem ggX5_rinses_X5_nearestPot : GoodIn wsX5_rinses wsX5_nearestPot := goodIn_r _ [23, 12, 13, 3, 14, 15, 16, 17, 18, 19, 24, 25, 26, 27, 28, 29, 30, 31, 32, 33, 34, 35, 36, 37, 38, 39, 40, 41, 42, 43, 44, 45, 46, 47, 48, 49, 50, 51, 52, 53, 54, 55, 56, 57, 58, 59] (by decide +kernel) (by decide +kernel)
set_option maxRecDepth 20000 in
theorem gX5_rinses_X5_nearestPot : GoodIn wsX5_rinses (wsV RX5 178 RX5 yX5_nearestPot wsX5_nearestPot) := goodIn_app (goodIn_of _ (by decide +kernel)) ggX5_rinses_X5_nearestPot
theorem dX5_rinses_0 : decode cX5_rinses 0 = .ok (.iload_n 1, 1) := by decide +kernel
theorem dX5_rinses_1 : decode cX5_rinses 1 = .ok (.invokestatic 86, 3) := by decide +kernel
theorem dX5_rinses_4 : decode cX5_rinses 4 = .ok (.ifCond .ne 5, 3) := by decide +kernel
theorem dX5_rinses_7 : decode cX5_rinses 7 = .ok (.iconst (-1), 1) := by decide +kernel
theorem dX5_rinses_8 : decode cX5_rinses 8 = .ok (.ireturn, 1) := by decide +kernel
theorem dX5_rinses_9 : decode cX5_rinses 9 = .ok (.aload_n 0, 1) := by decide +kernel
theorem dX5_rinses_10 : decode cX5_rinses 10 = .ok (.invokevirtual 169, 3) := by decide +kernel
theorem dX5_rinses_13 : decode cX5_rinses 13 = .ok (.ifCond .ne 6, 3) := by decide +kernel
theorem dX5_rinses_16 : decode cX5_rinses 16 = .ok (.bipush (-6), 2) := by decide +kernel
theorem dX5_rinses_18 : decode cX5_rinses 18 = .ok (.ireturn, 1) := by decide +kernel
theorem dX5_rinses_19 : decode cX5_rinses 19 = .ok (.iconst 0, 1) := by decide +kernel
theorem dX5_rinses_20 : decode cX5_rinses 20 = .ok (.istore_n 2, 1) := by decide +kernel
theorem dX5_rinses_21 : decode cX5_rinses 21 = .ok (.iconst 1, 1) := by decide +kernel
theorem dX5_rinses_22 : decode cX5_rinses 22 = .ok (.istore_n 3, 1) := by decide +kernel
theorem dX5_rinses_23 : decode cX5_rinses 23 = .ok (.iload_n 3, 1) := by decide +kernel
theorem dX5_rinses_24 : decode cX5_rinses 24 = .ok (.bipush 6, 2) := by decide +kernel
theorem dX5_rinses_26 : decode cX5_rinses 26 = .ok (.if_icmp .ge 42, 3) := by decide +kernel
theorem dX5_rinses_29 : decode cX5_rinses 29 = .ok (.iload_n 2, 1) := by decide +kernel
theorem dX5_rinses_30 : decode cX5_rinses 30 = .ok (.aload_n 0, 1) := by decide +kernel
theorem dX5_rinses_31 : decode cX5_rinses 31 = .ok (.iload_n 1, 1) := by decide +kernel
theorem dX5_rinses_32 : decode cX5_rinses 32 = .ok (.iload_n 3, 1) := by decide +kernel
theorem dX5_rinses_33 : decode cX5_rinses 33 = .ok (.iadd, 1) := by decide +kernel
theorem dX5_rinses_34 : decode cX5_rinses 34 = .ok (.bipush 6, 2) := by decide +kernel
theorem dX5_rinses_36 : decode cX5_rinses 36 = .ok (.irem, 1) := by decide +kernel
theorem dX5_rinses_37 : decode cX5_rinses 37 = .ok (.invokevirtual 178, 3) := by decide +kernel
theorem dX5_rinses_40 : decode cX5_rinses 40 = .ok (.aload_n 0, 1) := by decide +kernel
theorem dX5_rinses_41 : decode cX5_rinses 41 = .ok (.iload_n 1, 1) := by decide +kernel
theorem dX5_rinses_42 : decode cX5_rinses 42 = .ok (.iload_n 3, 1) := by decide +kernel
theorem dX5_rinses_43 : decode cX5_rinses 43 = .ok (.iadd, 1) := by decide +kernel
theorem dX5_rinses_44 : decode cX5_rinses 44 = .ok (.iconst 1, 1) := by decide +kernel
theorem dX5_rinses_45 : decode cX5_rinses 45 = .ok (.isub, 1) := by decide +kernel
theorem dX5_rinses_46 : decode cX5_rinses 46 = .ok (.bipush 6, 2) := by decide +kernel
theorem dX5_rinses_48 : decode cX5_rinses 48 = .ok (.irem, 1) := by decide +kernel
theorem dX5_rinses_49 : decode cX5_rinses 49 = .ok (.invokevirtual 178, 3) := by decide +kernel
theorem dX5_rinses_52 : decode cX5_rinses 52 = .ok (.if_icmp .ne 7, 3) := by decide +kernel
theorem dX5_rinses_55 : decode cX5_rinses 55 = .ok (.iconst 0, 1) := by decide +kernel
theorem dX5_rinses_56 : decode cX5_rinses 56 = .ok (.goto 4, 3) := by decide +kernel
theorem dX5_rinses_59 : decode cX5_rinses 59 = .ok (.iconst 1, 1) := by decide +kernel
theorem dX5_rinses_60 : decode cX5_rinses 60 = .ok (.iadd, 1) := by decide +kernel
theorem dX5_rinses_61 : decode cX5_rinses 61 = .ok (.istore_n 2, 1) := by decide +kernel
theorem dX5_rinses_62 : decode cX5_rinses 62 = .ok (.iinc 3 1, 3) := by decide +kernel
theorem dX5_rinses_65 : decode cX5_rinses 65 = .ok (.goto (-42), 3) := by decide +kernel
theorem dX5_rinses_68 : decode cX5_rinses 68 = .ok (.iload_n 2, 1) := by decide +kernel
theorem dX5_rinses_69 : decode cX5_rinses 69 = .ok (.ireturn, 1) := by decide +kernel
set_option maxRecDepth 20000 in
theorem ggX5_next_X5_nearestPot : GoodIn wsX5_next wsX5_nearestPot := goodIn_r _ [5, 6, 7, 4, 8, 9, 10, 11, 12, 13, 14, 15, 16, 17, 18, 19, 20, 21, 22, 23, 24, 25, 26, 27, 28, 29, 30, 31, 32, 33, 34, 35, 36, 37, 38, 39, 40, 41, 42, 43, 44, 45, 46, 47, 48, 49] (by decide +kernel) (by decide +kernel)
set_option maxRecDepth 20000 in
theorem gX5_next_X5_nearestPot : GoodIn wsX5_next (wsV RX5 178 RX5 yX5_nearestPot wsX5_nearestPot) := goodIn_app (goodIn_of _ (by decide +kernel)) ggX5_next_X5_nearestPot
theorem dX5_next_0 : decode cX5_next 0 = .ok (.bipush (-6), 2) := by decide +kernel
theorem dX5_next_2 : decode cX5_next 2 = .ok (.istore_n 3, 1) := by decide +kernel
theorem dX5_next_3 : decode cX5_next 3 = .ok (.iconst 5, 1) := by decide +kernel
theorem dX5_next_4 : decode cX5_next 4 = .ok (.istore 4, 2) := by decide +kernel
theorem dX5_next_6 : decode cX5_next 6 = .ok (.iload 4, 2) := by decide +kernel
theorem dX5_next_8 : decode cX5_next 8 = .ok (.ifCond .lt 53, 3) := by decide +kernel
theorem dX5_next_11 : decode cX5_next 11 = .ok (.iload_n 1, 1) := by decide +kernel
theorem dX5_next_12 : decode cX5_next 12 = .ok (.iload 4, 2) := by decide +kernel
theorem dX5_next_14 : decode cX5_next 14 = .ok (.ishr, 1) := by decide +kernel
theorem dX5_next_15 : decode cX5_next 15 = .ok (.iconst 1, 1) := by decide +kernel
theorem dX5_next_16 : decode cX5_next 16 = .ok (.iand, 1) := by decide +kernel
theorem dX5_next_17 : decode cX5_next 17 = .ok (.ifCond .ne 23, 3) := by decide +kernel
theorem dX5_next_20 : decode cX5_next 20 = .ok (.iload_n 2, 1) := by decide +kernel
theorem dX5_next_21 : decode cX5_next 21 = .ok (.bipush (-6), 2) := by decide +kernel
theorem dX5_next_23 : decode cX5_next 23 = .ok (.if_icmp .eq 13, 3) := by decide +kernel
theorem dX5_next_26 : decode cX5_next 26 = .ok (.aload_n 0, 1) := by decide +kernel
theorem dX5_next_27 : decode cX5_next 27 = .ok (.iload 4, 2) := by decide +kernel
theorem dX5_next_29 : decode cX5_next 29 = .ok (.invokevirtual 178, 3) := by decide +kernel
theorem dX5_next_32 : decode cX5_next 32 = .ok (.iload_n 2, 1) := by decide +kernel
theorem dX5_next_33 : decode cX5_next 33 = .ok (.if_icmp .ne 7, 3) := by decide +kernel
theorem dX5_next_36 : decode cX5_next 36 = .ok (.iconst 1, 1) := by decide +kernel
theorem dX5_next_37 : decode cX5_next 37 = .ok (.goto 4, 3) := by decide +kernel
theorem dX5_next_40 : decode cX5_next 40 = .ok (.iconst 0, 1) := by decide +kernel
theorem dX5_next_41 : decode cX5_next 41 = .ok (.istore 5, 2) := by decide +kernel
theorem dX5_next_43 : decode cX5_next 43 = .ok (.iload 5, 2) := by decide +kernel
theorem dX5_next_45 : decode cX5_next 45 = .ok (.ifCond .eq 8, 3) := by decide +kernel
theorem dX5_next_48 : decode cX5_next 48 = .ok (.iload 4, 2) := by decide +kernel
theorem dX5_next_50 : decode cX5_next 50 = .ok (.goto 4, 3) := by decide +kernel
theorem dX5_next_53 : decode cX5_next 53 = .ok (.iload_n 3, 1) := by decide +kernel
theorem dX5_next_54 : decode cX5_next 54 = .ok (.istore_n 3, 1) := by decide +kernel
theorem dX5_next_55 : decode cX5_next 55 = .ok (.iinc 4 (-1), 3) := by decide +kernel
theorem dX5_next_58 : decode cX5_next 58 = .ok (.goto (-52), 3) := by decide +kernel
theorem dX5_next_61 : decode cX5_next 61 = .ok (.iload_n 3, 1) := by decide +kernel
theorem dX5_next_62 : decode cX5_next 62 = .ok (.ireturn, 1) := by decide +kernel
set_option maxRecDepth 20000 in
theorem ggX5_bestOrder_X5_in : GoodIn wsX5_bestOrder wsX5_in := goodIn_r _ [4] (by decide +kernel) (by decide +kernel)
set_option maxRecDepth 20000 in
theorem gX5_bestOrder_X5_in : GoodIn wsX5_bestOrder (va_wsS RX5 39 yX5_in wsX5_in) := goodIn_app (goodIn_of _ (by decide +kernel)) ggX5_bestOrder_X5_in
set_option maxRecDepth 20000 in
theorem ggX5_bestOrder_X5_inPots : GoodIn wsX5_bestOrder wsX5_inPots := goodIn_r _ [8, 9, 10, 3, 11, 12, 13, 14, 15, 16, 48, 49, 50, 51, 52, 53, 54, 55, 56, 57, 58, 59, 60] (by decide +kernel) (by decide +kernel)
set_option maxRecDepth 20000 in
theorem gX5_bestOrder_X5_inPots : GoodIn wsX5_bestOrder (wsV RX5 169 RX5 yX5_inPots wsX5_inPots) := goodIn_app (goodIn_of _ (by decide +kernel)) ggX5_bestOrder_X5_inPots
set_option maxRecDepth 20000 in
theorem ggX5_bestOrder_X5_nearestPot : GoodIn wsX5_bestOrder wsX5_nearestPot := goodIn_r _ [20, 9, 10, 3, 11, 12, 13, 14, 15, 16, 21, 22, 23, 24, 25, 26, 27, 28, 29, 30, 31, 32, 33, 34, 35, 36, 37, 38, 39, 40, 41, 42, 43, 48, 49, 50, 51, 52, 53, 54, 55, 56, 57, 58, 59, 60] (by decide +kernel) (by decide +kernel)
set_option maxRecDepth 20000 in
theorem gX5_bestOrder_X5_nearestPot : GoodIn wsX5_bestOrder (wsV RX5 178 RX5 yX5_nearestPot wsX5_nearestPot) := goodIn_app (goodIn_of _ (by decide +kernel)) ggX5_bestOrder_X5_nearestPot
set_option maxRecDepth 20000 in
theorem ggX5_bestOrder_X5_next : GoodIn wsX5_bestOrder wsX5_next := goodIn_r _ [47, 17, 18, 19, 3, 20, 9, 10, 11, 12, 13, 14, 15, 16, 21, 22, 23, 24, 25, 26, 27, 28, 29, 30, 31, 32, 33, 34, 35, 36, 37, 38, 39, 40, 41, 42, 43, 48, 49, 50, 51, 52, 53, 54, 55, 56, 57, 58, 59, 60] (by decide +kernel) (by decide +kernel)
set_option maxRecDepth 20000 in
theorem gX5_bestOrder_X5_next : GoodIn wsX5_bestOrder (wsV RX5 185 RX5 yX5_next wsX5_next) := goodIn_app (goodIn_of _ (by decide +kernel)) ggX5_bestOrder_X5_next
theorem dX5_bestOrder_0 : decode cX5_bestOrder 0 = .ok (.iload_n 1, 1) := by decide +kernel
theorem dX5_bestOrder_1 : decode cX5_bestOrder 1 = .ok (.iconst 0, 1) := by decide +kernel
theorem dX5_bestOrder_2 : decode cX5_bestOrder 2 = .ok (.iconst 5, 1) := by decide +kernel
theorem dX5_bestOrder_3 : decode cX5_bestOrder 3 = .ok (.invokestatic 39, 3) := by decide +kernel
theorem dX5_bestOrder_6 : decode cX5_bestOrder 6 = .ok (.ifCond .ne 6, 3) := by decide +kernel
theorem dX5_bestOrder_9 : decode cX5_bestOrder 9 = .ok (.bipush (-2), 2) := by decide +kernel
theorem dX5_bestOrder_11 : decode cX5_bestOrder 11 = .ok (.ireturn, 1) := by decide +kernel
theorem dX5_bestOrder_12 : decode cX5_bestOrder 12 = .ok (.aload_n 0, 1) := by decide +kernel
theorem dX5_bestOrder_13 : decode cX5_bestOrder 13 = .ok (.invokevirtual 169, 3) := by decide +kernel
theorem dX5_bestOrder_16 : decode cX5_bestOrder 16 = .ok (.ifCond .ne 6, 3) := by decide +kernel
theorem dX5_bestOrder_19 : decode cX5_bestOrder 19 = .ok (.bipush (-6), 2) := by decide +kernel
theorem dX5_bestOrder_21 : decode cX5_bestOrder 21 = .ok (.ireturn, 1) := by decide +kernel
theorem dX5_bestOrder_22 : decode cX5_bestOrder 22 = .ok (.iconst 0, 1) := by decide +kernel
theorem dX5_bestOrder_23 : decode cX5_bestOrder 23 = .ok (.istore_n 2, 1) := by decide +kernel
theorem dX5_bestOrder_24 : decode cX5_bestOrder 24 = .ok (.iconst 1, 1) := by decide +kernel
theorem dX5_bestOrder_25 : decode cX5_bestOrder 25 = .ok (.istore_n 3, 1) := by decide +kernel
theorem dX5_bestOrder_26 : decode cX5_bestOrder 26 = .ok (.iconst 0, 1) := by decide +kernel
theorem dX5_bestOrder_27 : decode cX5_bestOrder 27 = .ok (.istore 4, 2) := by decide +kernel
theorem dX5_bestOrder_29 : decode cX5_bestOrder 29 = .ok (.iload 4, 2) := by decide +kernel
theorem dX5_bestOrder_31 : decode cX5_bestOrder 31 = .ok (.iload_n 1, 1) := by decide +kernel
theorem dX5_bestOrder_32 : decode cX5_bestOrder 32 = .ok (.if_icmp .ge 47, 3) := by decide +kernel
theorem dX5_bestOrder_35 : decode cX5_bestOrder 35 = .ok (.aload_n 0, 1) := by decide +kernel
theorem dX5_bestOrder_36 : decode cX5_bestOrder 36 = .ok (.iload_n 3, 1) := by decide +kernel
theorem dX5_bestOrder_37 : decode cX5_bestOrder 37 = .ok (.aload_n 0, 1) := by decide +kernel
theorem dX5_bestOrder_38 : decode cX5_bestOrder 38 = .ok (.iload_n 2, 1) := by decide +kernel
theorem dX5_bestOrder_39 : decode cX5_bestOrder 39 = .ok (.invokevirtual 178, 3) := by decide +kernel
theorem dX5_bestOrder_42 : decode cX5_bestOrder 42 = .ok (.invokevirtual 185, 3) := by decide +kernel
theorem dX5_bestOrder_45 : decode cX5_bestOrder 45 = .ok (.istore 5, 2) := by decide +kernel
theorem dX5_bestOrder_47 : decode cX5_bestOrder 47 = .ok (.iload 5, 2) := by decide +kernel
theorem dX5_bestOrder_49 : decode cX5_bestOrder 49 = .ok (.bipush (-6), 2) := by decide +kernel
theorem dX5_bestOrder_51 : decode cX5_bestOrder 51 = .ok (.if_icmp .ne 13, 3) := by decide +kernel
theorem dX5_bestOrder_54 : decode cX5_bestOrder 54 = .ok (.aload_n 0, 1) := by decide +kernel
theorem dX5_bestOrder_55 : decode cX5_bestOrder 55 = .ok (.iload_n 3, 1) := by decide +kernel
theorem dX5_bestOrder_56 : decode cX5_bestOrder 56 = .ok (.bipush (-6), 2) := by decide +kernel
theorem dX5_bestOrder_58 : decode cX5_bestOrder 58 = .ok (.invokevirtual 185, 3) := by decide +kernel
theorem dX5_bestOrder_61 : decode cX5_bestOrder 61 = .ok (.goto 5, 3) := by decide +kernel
theorem dX5_bestOrder_64 : decode cX5_bestOrder 64 = .ok (.iload 5, 2) := by decide +kernel
theorem dX5_bestOrder_66 : decode cX5_bestOrder 66 = .ok (.istore_n 2, 1) := by decide +kernel
theorem dX5_bestOrder_67 : decode cX5_bestOrder 67 = .ok (.iload_n 3, 1) := by decide +kernel
theorem dX5_bestOrder_68 : decode cX5_bestOrder 68 = .ok (.iconst 1, 1) := by decide +kernel
theorem dX5_bestOrder_69 : decode cX5_bestOrder 69 = .ok (.iload_n 2, 1) := by decide +kernel
theorem dX5_bestOrder_70 : decode cX5_bestOrder 70 = .ok (.ishl, 1) := by decide +kernel
theorem dX5_bestOrder_71 : decode cX5_bestOrder 71 = .ok (.ior, 1) := by decide +kernel
theorem dX5_bestOrder_72 : decode cX5_bestOrder 72 = .ok (.istore_n 3, 1) := by decide +kernel
theorem dX5_bestOrder_73 : decode cX5_bestOrder 73 = .ok (.iinc 4 1, 3) := by decide +kernel
theorem dX5_bestOrder_76 : decode cX5_bestOrder 76 = .ok (.goto (-47), 3) := by decide +kernel
theorem dX5_bestOrder_79 : decode cX5_bestOrder 79 = .ok (.iload_n 2, 1) := by decide +kernel
theorem dX5_bestOrder_80 : decode cX5_bestOrder 80 = .ok (.ireturn, 1) := by decide +kernel
theorem dX5_put_0 : decode cX5_put 0 = .ok (.iconst 0, 1) := by decide +kernel
theorem dX5_put_1 : decode cX5_put 1 = .ok (.istore_n 3, 1) := by decide +kernel
theorem dX5_put_2 : decode cX5_put 2 = .ok (.lload_n 1, 1) := by decide +kernel
theorem dX5_put_3 : decode cX5_put 3 = .ok (.lstore 4, 2) := by decide +kernel
theorem dX5_put_5 : decode cX5_put 5 = .ok (.iload_n 3, 1) := by decide +kernel
theorem dX5_put_6 : decode cX5_put 6 = .ok (.bipush 8, 2) := by decide +kernel
theorem dX5_put_8 : decode cX5_put 8 = .ok (.if_icmp .ge 52, 3) := by decide +kernel
theorem dX5_put_11 : decode cX5_put 11 = .ok (.lload 4, 2) := by decide +kernel
theorem dX5_put_13 : decode cX5_put 13 = .ok (.lconst 0, 1) := by decide +kernel
theorem dX5_put_14 : decode cX5_put 14 = .ok (.lcmp, 1) := by decide +kernel
theorem dX5_put_15 : decode cX5_put 15 = .ok (.ifCond .eq 45, 3) := by decide +kernel
theorem dX5_put_18 : decode cX5_put 18 = .ok (.lload 4, 2) := by decide +kernel
theorem dX5_put_20 : decode cX5_put 20 = .ok (.ldc2_w 188, 3) := by decide +kernel
theorem dX5_put_23 : decode cX5_put 23 = .ok (.land, 1) := by decide +kernel
theorem dX5_put_24 : decode cX5_put 24 = .ok (.lstore 6, 2) := by decide +kernel
theorem dX5_put_26 : decode cX5_put 26 = .ok (.lload 6, 2) := by decide +kernel
theorem dX5_put_28 : decode cX5_put 28 = .ok (.ldc2_w 190, 3) := by decide +kernel
theorem dX5_put_31 : decode cX5_put 31 = .ok (.lcmp, 1) := by decide +kernel
theorem dX5_put_32 : decode cX5_put 32 = .ok (.ifCond .lt 12, 3) := by decide +kernel
theorem dX5_put_35 : decode cX5_put 35 = .ok (.lload 6, 2) := by decide +kernel
theorem dX5_put_37 : decode cX5_put 37 = .ok (.ldc2_w 192, 3) := by decide +kernel
theorem dX5_put_40 : decode cX5_put 40 = .ok (.lcmp, 1) := by decide +kernel
theorem dX5_put_41 : decode cX5_put 41 = .ok (.ifCond .le 6, 3) := by decide +kernel
theorem dX5_put_44 : decode cX5_put 44 = .ok (.bipush (-2), 2) := by decide +kernel
theorem dX5_put_46 : decode cX5_put 46 = .ok (.ireturn, 1) := by decide +kernel
theorem dX5_put_47 : decode cX5_put 47 = .ok (.lload 4, 2) := by decide +kernel
theorem dX5_put_49 : decode cX5_put 49 = .ok (.bipush 8, 2) := by decide +kernel
theorem dX5_put_51 : decode cX5_put 51 = .ok (.lushr, 1) := by decide +kernel
theorem dX5_put_52 : decode cX5_put 52 = .ok (.lstore 4, 2) := by decide +kernel
theorem dX5_put_54 : decode cX5_put 54 = .ok (.iinc 3 1, 3) := by decide +kernel
theorem dX5_put_57 : decode cX5_put 57 = .ok (.goto (-52), 3) := by decide +kernel
theorem dX5_put_60 : decode cX5_put 60 = .ok (.iload_n 3, 1) := by decide +kernel
theorem dX5_put_61 : decode cX5_put 61 = .ok (.ifCond .ne 6, 3) := by decide +kernel
theorem dX5_put_64 : decode cX5_put 64 = .ok (.bipush (-2), 2) := by decide +kernel
theorem dX5_put_66 : decode cX5_put 66 = .ok (.ireturn, 1) := by decide +kernel
theorem dX5_put_67 : decode cX5_put 67 = .ok (.aload_n 0, 1) := by decide +kernel
theorem dX5_put_68 : decode cX5_put 68 = .ok (.getfield 126, 3) := by decide +kernel
theorem dX5_put_71 : decode cX5_put 71 = .ok (.iload_n 3, 1) := by decide +kernel
theorem dX5_put_72 : decode cX5_put 72 = .ok (.iadd, 1) := by decide +kernel
theorem dX5_put_73 : decode cX5_put 73 = .ok (.bipush 60, 2) := by decide +kernel
theorem dX5_put_75 : decode cX5_put 75 = .ok (.if_icmp .le 6, 3) := by decide +kernel
theorem dX5_put_78 : decode cX5_put 78 = .ok (.bipush (-4), 2) := by decide +kernel
theorem dX5_put_80 : decode cX5_put 80 = .ok (.ireturn, 1) := by decide +kernel
theorem dX5_put_81 : decode cX5_put 81 = .ok (.iload_n 3, 1) := by decide +kernel
theorem dX5_put_82 : decode cX5_put 82 = .ok (.iconst 1, 1) := by decide +kernel
theorem dX5_put_83 : decode cX5_put 83 = .ok (.isub, 1) := by decide +kernel
theorem dX5_put_84 : decode cX5_put 84 = .ok (.istore 6, 2) := by decide +kernel
theorem dX5_put_86 : decode cX5_put 86 = .ok (.iload 6, 2) := by decide +kernel
theorem dX5_put_88 : decode cX5_put 88 = .ok (.ifCond .lt 41, 3) := by decide +kernel
theorem dX5_put_91 : decode cX5_put 91 = .ok (.aload_n 0, 1) := by decide +kernel
theorem dX5_put_92 : decode cX5_put 92 = .ok (.getfield 35, 3) := by decide +kernel
theorem dX5_put_95 : decode cX5_put 95 = .ok (.aload_n 0, 1) := by decide +kernel
theorem dX5_put_96 : decode cX5_put 96 = .ok (.getfield 126, 3) := by decide +kernel
theorem dX5_put_99 : decode cX5_put 99 = .ok (.lload_n 1, 1) := by decide +kernel
theorem dX5_put_100 : decode cX5_put 100 = .ok (.bipush 8, 2) := by decide +kernel
theorem dX5_put_102 : decode cX5_put 102 = .ok (.iload 6, 2) := by decide +kernel
theorem dX5_put_104 : decode cX5_put 104 = .ok (.imul, 1) := by decide +kernel
theorem dX5_put_105 : decode cX5_put 105 = .ok (.lushr, 1) := by decide +kernel
theorem dX5_put_106 : decode cX5_put 106 = .ok (.ldc2_w 188, 3) := by decide +kernel
theorem dX5_put_109 : decode cX5_put 109 = .ok (.land, 1) := by decide +kernel
theorem dX5_put_110 : decode cX5_put 110 = .ok (.l2i, 1) := by decide +kernel
theorem dX5_put_111 : decode cX5_put 111 = .ok (.i2c, 1) := by decide +kernel
theorem dX5_put_112 : decode cX5_put 112 = .ok (.castore, 1) := by decide +kernel
theorem dX5_put_113 : decode cX5_put 113 = .ok (.aload_n 0, 1) := by decide +kernel
theorem dX5_put_114 : decode cX5_put 114 = .ok (.dup, 1) := by decide +kernel
theorem dX5_put_115 : decode cX5_put 115 = .ok (.getfield 126, 3) := by decide +kernel
theorem dX5_put_118 : decode cX5_put 118 = .ok (.iconst 1, 1) := by decide +kernel
theorem dX5_put_119 : decode cX5_put 119 = .ok (.iadd, 1) := by decide +kernel
theorem dX5_put_120 : decode cX5_put 120 = .ok (.putfield 126, 3) := by decide +kernel
theorem dX5_put_123 : decode cX5_put 123 = .ok (.iinc 6 (-1), 3) := by decide +kernel
theorem dX5_put_126 : decode cX5_put 126 = .ok (.goto (-40), 3) := by decide +kernel
theorem dX5_put_129 : decode cX5_put 129 = .ok (.aload_n 0, 1) := by decide +kernel
theorem dX5_put_130 : decode cX5_put 130 = .ok (.getfield 126, 3) := by decide +kernel
theorem dX5_put_133 : decode cX5_put 133 = .ok (.ireturn, 1) := by decide +kernel
theorem dX5_wipe_0 : decode cX5_wipe 0 = .ok (.aload_n 0, 1) := by decide +kernel
theorem dX5_wipe_1 : decode cX5_wipe 1 = .ok (.getfield 126, 3) := by decide +kernel
theorem dX5_wipe_4 : decode cX5_wipe 4 = .ok (.istore_n 1, 1) := by decide +kernel
theorem dX5_wipe_5 : decode cX5_wipe 5 = .ok (.aload_n 0, 1) := by decide +kernel
theorem dX5_wipe_6 : decode cX5_wipe 6 = .ok (.iconst 0, 1) := by decide +kernel
theorem dX5_wipe_7 : decode cX5_wipe 7 = .ok (.putfield 126, 3) := by decide +kernel
theorem dX5_wipe_10 : decode cX5_wipe 10 = .ok (.iload_n 1, 1) := by decide +kernel
theorem dX5_wipe_11 : decode cX5_wipe 11 = .ok (.ireturn, 1) := by decide +kernel
set_option maxRecDepth 20000 in
theorem ggX5_fault_X5_faultOf : GoodIn wsX5_fault wsX5_faultOf := goodIn_r _ [5, 6, 7, 8, 9, 10, 11, 4, 12, 13, 14, 15, 16, 17, 18, 19, 20, 21, 22, 23, 24, 25, 26, 27, 28, 29, 30, 31, 32, 33, 34, 35, 36, 37, 38, 39, 40, 41, 42, 43, 44, 45, 46, 47, 48, 49, 50, 51, 52, 53, 54, 55] (by decide +kernel) (by decide +kernel)
set_option maxRecDepth 20000 in
theorem gX5_fault_X5_faultOf : GoodIn wsX5_fault (wsV RX5 160 RX5 yX5_faultOf wsX5_faultOf) := goodIn_app (goodIn_of _ (by decide +kernel)) ggX5_fault_X5_faultOf
theorem dX5_fault_0 : decode cX5_fault 0 = .ok (.aload_n 0, 1) := by decide +kernel
theorem dX5_fault_1 : decode cX5_fault 1 = .ok (.invokevirtual 160, 3) := by decide +kernel
theorem dX5_fault_4 : decode cX5_fault 4 = .ok (.istore_n 1, 1) := by decide +kernel
theorem dX5_fault_5 : decode cX5_fault 5 = .ok (.iload_n 1, 1) := by decide +kernel
theorem dX5_fault_6 : decode cX5_fault 6 = .ok (.ifCond .ge 8, 3) := by decide +kernel
theorem dX5_fault_9 : decode cX5_fault 9 = .ok (.bipush (-6), 2) := by decide +kernel
theorem dX5_fault_11 : decode cX5_fault 11 = .ok (.goto 4, 3) := by decide +kernel
theorem dX5_fault_14 : decode cX5_fault 14 = .ok (.iload_n 1, 1) := by decide +kernel
theorem dX5_fault_15 : decode cX5_fault 15 = .ok (.ireturn, 1) := by decide +kernel
theorem dX5_undo_0 : decode cX5_undo 0 = .ok (.aload_n 0, 1) := by decide +kernel
theorem dX5_undo_1 : decode cX5_undo 1 = .ok (.getfield 43, 3) := by decide +kernel
theorem dX5_undo_4 : decode cX5_undo 4 = .ok (.ifCond .ne 6, 3) := by decide +kernel
theorem dX5_undo_7 : decode cX5_undo 7 = .ok (.bipush (-5), 2) := by decide +kernel
theorem dX5_undo_9 : decode cX5_undo 9 = .ok (.ireturn, 1) := by decide +kernel
theorem dX5_undo_10 : decode cX5_undo 10 = .ok (.aload_n 0, 1) := by decide +kernel
theorem dX5_undo_11 : decode cX5_undo 11 = .ok (.dup, 1) := by decide +kernel
theorem dX5_undo_12 : decode cX5_undo 12 = .ok (.getfield 43, 3) := by decide +kernel
theorem dX5_undo_15 : decode cX5_undo 15 = .ok (.iconst 1, 1) := by decide +kernel
theorem dX5_undo_16 : decode cX5_undo 16 = .ok (.isub, 1) := by decide +kernel
theorem dX5_undo_17 : decode cX5_undo 17 = .ok (.putfield 43, 3) := by decide +kernel
theorem dX5_undo_20 : decode cX5_undo 20 = .ok (.iconst 0, 1) := by decide +kernel
theorem dX5_undo_21 : decode cX5_undo 21 = .ok (.istore_n 1, 1) := by decide +kernel
theorem dX5_undo_22 : decode cX5_undo 22 = .ok (.iload_n 1, 1) := by decide +kernel
theorem dX5_undo_23 : decode cX5_undo 23 = .ok (.bipush 99, 2) := by decide +kernel
theorem dX5_undo_25 : decode cX5_undo 25 = .ok (.if_icmp .ge 29, 3) := by decide +kernel
theorem dX5_undo_28 : decode cX5_undo 28 = .ok (.aload_n 0, 1) := by decide +kernel
theorem dX5_undo_29 : decode cX5_undo 29 = .ok (.getfield 7, 3) := by decide +kernel
theorem dX5_undo_32 : decode cX5_undo 32 = .ok (.iload_n 1, 1) := by decide +kernel
theorem dX5_undo_33 : decode cX5_undo 33 = .ok (.aload_n 0, 1) := by decide +kernel
theorem dX5_undo_34 : decode cX5_undo 34 = .ok (.getfield 16, 3) := by decide +kernel
theorem dX5_undo_37 : decode cX5_undo 37 = .ok (.bipush 99, 2) := by decide +kernel
theorem dX5_undo_39 : decode cX5_undo 39 = .ok (.aload_n 0, 1) := by decide +kernel
theorem dX5_undo_40 : decode cX5_undo 40 = .ok (.getfield 43, 3) := by decide +kernel
theorem dX5_undo_43 : decode cX5_undo 43 = .ok (.imul, 1) := by decide +kernel
theorem dX5_undo_44 : decode cX5_undo 44 = .ok (.iload_n 1, 1) := by decide +kernel
theorem dX5_undo_45 : decode cX5_undo 45 = .ok (.iadd, 1) := by decide +kernel
theorem dX5_undo_46 : decode cX5_undo 46 = .ok (.iaload, 1) := by decide +kernel
theorem dX5_undo_47 : decode cX5_undo 47 = .ok (.iastore, 1) := by decide +kernel
theorem dX5_undo_48 : decode cX5_undo 48 = .ok (.iinc 1 1, 3) := by decide +kernel
theorem dX5_undo_51 : decode cX5_undo 51 = .ok (.goto (-29), 3) := by decide +kernel
theorem dX5_undo_54 : decode cX5_undo 54 = .ok (.aload_n 0, 1) := by decide +kernel
theorem dX5_undo_55 : decode cX5_undo 55 = .ok (.getfield 43, 3) := by decide +kernel
theorem dX5_undo_58 : decode cX5_undo 58 = .ok (.ireturn, 1) := by decide +kernel
set_option maxRecDepth 20000 in
theorem ggX5_save_X5_in : GoodIn wsX5_save wsX5_in := goodIn_r _ [7] (by decide +kernel) (by decide +kernel)
set_option maxRecDepth 20000 in
theorem gX5_save_X5_in : GoodIn wsX5_save (va_wsS RX5 39 yX5_in wsX5_in) := goodIn_app (goodIn_of _ (by decide +kernel)) ggX5_save_X5_in
set_option maxRecDepth 20000 in
theorem ggX5_save_X5_inPots : GoodIn wsX5_save wsX5_inPots := goodIn_r _ [11, 12, 13, 6, 14, 15, 16, 17, 18, 2, 19, 20, 21, 22, 23, 24, 25, 26, 27, 28, 29, 30, 31] (by decide +kernel) (by decide +kernel)
set_option maxRecDepth 20000 in
theorem gX5_save_X5_inPots : GoodIn wsX5_save (wsV RX5 169 RX5 yX5_inPots wsX5_inPots) := goodIn_app (goodIn_of _ (by decide +kernel)) ggX5_save_X5_inPots
theorem dX5_save_0 : decode cX5_save 0 = .ok (.iload_n 1, 1) := by decide +kernel
theorem dX5_save_1 : decode cX5_save 1 = .ok (.iconst 0, 1) := by decide +kernel
theorem dX5_save_2 : decode cX5_save 2 = .ok (.iconst 1, 1) := by decide +kernel
theorem dX5_save_3 : decode cX5_save 3 = .ok (.invokestatic 39, 3) := by decide +kernel
theorem dX5_save_6 : decode cX5_save 6 = .ok (.ifCond .ne 6, 3) := by decide +kernel
theorem dX5_save_9 : decode cX5_save 9 = .ok (.bipush (-2), 2) := by decide +kernel
theorem dX5_save_11 : decode cX5_save 11 = .ok (.ireturn, 1) := by decide +kernel
theorem dX5_save_12 : decode cX5_save 12 = .ok (.iconst 0, 1) := by decide +kernel
theorem dX5_save_13 : decode cX5_save 13 = .ok (.istore_n 2, 1) := by decide +kernel
theorem dX5_save_14 : decode cX5_save 14 = .ok (.iload_n 2, 1) := by decide +kernel
theorem dX5_save_15 : decode cX5_save 15 = .ok (.bipush 99, 2) := by decide +kernel
theorem dX5_save_17 : decode cX5_save 17 = .ok (.if_icmp .ge 26, 3) := by decide +kernel
theorem dX5_save_20 : decode cX5_save 20 = .ok (.aload_n 0, 1) := by decide +kernel
theorem dX5_save_21 : decode cX5_save 21 = .ok (.getfield 19, 3) := by decide +kernel
theorem dX5_save_24 : decode cX5_save 24 = .ok (.bipush 99, 2) := by decide +kernel
theorem dX5_save_26 : decode cX5_save 26 = .ok (.iload_n 1, 1) := by decide +kernel
theorem dX5_save_27 : decode cX5_save 27 = .ok (.imul, 1) := by decide +kernel
theorem dX5_save_28 : decode cX5_save 28 = .ok (.iload_n 2, 1) := by decide +kernel
theorem dX5_save_29 : decode cX5_save 29 = .ok (.iadd, 1) := by decide +kernel
theorem dX5_save_30 : decode cX5_save 30 = .ok (.aload_n 0, 1) := by decide +kernel
theorem dX5_save_31 : decode cX5_save 31 = .ok (.getfield 7, 3) := by decide +kernel
theorem dX5_save_34 : decode cX5_save 34 = .ok (.iload_n 2, 1) := by decide +kernel
theorem dX5_save_35 : decode cX5_save 35 = .ok (.iaload, 1) := by decide +kernel
theorem dX5_save_36 : decode cX5_save 36 = .ok (.iastore, 1) := by decide +kernel
theorem dX5_save_37 : decode cX5_save 37 = .ok (.iinc 2 1, 3) := by decide +kernel
theorem dX5_save_40 : decode cX5_save 40 = .ok (.goto (-26), 3) := by decide +kernel
theorem dX5_save_43 : decode cX5_save 43 = .ok (.aload_n 0, 1) := by decide +kernel
theorem dX5_save_44 : decode cX5_save 44 = .ok (.getfield 22, 3) := by decide +kernel
theorem dX5_save_47 : decode cX5_save 47 = .ok (.iload_n 1, 1) := by decide +kernel
theorem dX5_save_48 : decode cX5_save 48 = .ok (.iconst 1, 1) := by decide +kernel
theorem dX5_save_49 : decode cX5_save 49 = .ok (.bastore, 1) := by decide +kernel
theorem dX5_save_50 : decode cX5_save 50 = .ok (.aload_n 0, 1) := by decide +kernel
theorem dX5_save_51 : decode cX5_save 51 = .ok (.invokevirtual 169, 3) := by decide +kernel
theorem dX5_save_54 : decode cX5_save 54 = .ok (.ireturn, 1) := by decide +kernel
set_option maxRecDepth 20000 in
theorem ggX5_restore_X5_in : GoodIn wsX5_restore wsX5_in := goodIn_r _ [7] (by decide +kernel) (by decide +kernel)
set_option maxRecDepth 20000 in
theorem gX5_restore_X5_in : GoodIn wsX5_restore (va_wsS RX5 39 yX5_in wsX5_in) := goodIn_app (goodIn_of _ (by decide +kernel)) ggX5_restore_X5_in
set_option maxRecDepth 20000 in
theorem ggX5_restore_X5_hold : GoodIn wsX5_restore wsX5_hold := goodIn_r _ [11, 12, 2, 30, 31, 32, 33, 34, 35, 36, 37, 38, 39, 40, 41, 42] (by decide +kernel) (by decide +kernel)
set_option maxRecDepth 20000 in
theorem gX5_restore_X5_hold : GoodIn wsX5_restore (wsV RX5 95 RX5 yX5_hold wsX5_hold) := goodIn_app (goodIn_of _ (by decide +kernel)) ggX5_restore_X5_hold
set_option maxRecDepth 20000 in
theorem ggX5_restore_X5_inPots : GoodIn wsX5_restore wsX5_inPots := goodIn_r _ [16, 17, 18, 6, 19, 20, 21, 22, 23, 2, 30, 31, 32, 33, 34, 35, 36, 37, 38, 39, 40, 41, 42] (by decide +kernel) (by decide +kernel)
set_option maxRecDepth 20000 in
theorem gX5_restore_X5_inPots : GoodIn wsX5_restore (wsV RX5 169 RX5 yX5_inPots wsX5_inPots) := goodIn_app (goodIn_of _ (by decide +kernel)) ggX5_restore_X5_inPots
set_option maxRecDepth 20000 in
theorem ggX5_restore_X5_recorded : GoodIn wsX5_restore wsX5_recorded := goodIn_r _ [27, 28, 29, 12, 30, 31, 32, 33, 34, 35, 36, 37, 38, 39, 40, 41, 42] (by decide +kernel) (by decide +kernel)
set_option maxRecDepth 20000 in
theorem gX5_restore_X5_recorded : GoodIn wsX5_restore (wsV RX5 98 RX5 yX5_recorded wsX5_recorded) := goodIn_app (goodIn_of _ (by decide +kernel)) ggX5_restore_X5_recorded
theorem dX5_restore_0 : decode cX5_restore 0 = .ok (.iload_n 1, 1) := by decide +kernel
theorem dX5_restore_1 : decode cX5_restore 1 = .ok (.iconst 0, 1) := by decide +kernel
theorem dX5_restore_2 : decode cX5_restore 2 = .ok (.iconst 1, 1) := by decide +kernel
theorem dX5_restore_3 : decode cX5_restore 3 = .ok (.invokestatic 39, 3) := by decide +kernel
theorem dX5_restore_6 : decode cX5_restore 6 = .ok (.ifCond .ne 6, 3) := by decide +kernel
theorem dX5_restore_9 : decode cX5_restore 9 = .ok (.bipush (-2), 2) := by decide +kernel
theorem dX5_restore_11 : decode cX5_restore 11 = .ok (.ireturn, 1) := by decide +kernel
theorem dX5_restore_12 : decode cX5_restore 12 = .ok (.aload_n 0, 1) := by decide +kernel
theorem dX5_restore_13 : decode cX5_restore 13 = .ok (.getfield 22, 3) := by decide +kernel
theorem dX5_restore_16 : decode cX5_restore 16 = .ok (.iload_n 1, 1) := by decide +kernel
theorem dX5_restore_17 : decode cX5_restore 17 = .ok (.baload, 1) := by decide +kernel
theorem dX5_restore_18 : decode cX5_restore 18 = .ok (.ifCond .ne 6, 3) := by decide +kernel
theorem dX5_restore_21 : decode cX5_restore 21 = .ok (.bipush (-5), 2) := by decide +kernel
theorem dX5_restore_23 : decode cX5_restore 23 = .ok (.ireturn, 1) := by decide +kernel
theorem dX5_restore_24 : decode cX5_restore 24 = .ok (.aload_n 0, 1) := by decide +kernel
theorem dX5_restore_25 : decode cX5_restore 25 = .ok (.invokevirtual 95, 3) := by decide +kernel
theorem dX5_restore_28 : decode cX5_restore 28 = .ok (.iconst 0, 1) := by decide +kernel
theorem dX5_restore_29 : decode cX5_restore 29 = .ok (.istore_n 2, 1) := by decide +kernel
theorem dX5_restore_30 : decode cX5_restore 30 = .ok (.iload_n 2, 1) := by decide +kernel
theorem dX5_restore_31 : decode cX5_restore 31 = .ok (.bipush 99, 2) := by decide +kernel
theorem dX5_restore_33 : decode cX5_restore 33 = .ok (.if_icmp .ge 26, 3) := by decide +kernel
theorem dX5_restore_36 : decode cX5_restore 36 = .ok (.aload_n 0, 1) := by decide +kernel
theorem dX5_restore_37 : decode cX5_restore 37 = .ok (.getfield 7, 3) := by decide +kernel
theorem dX5_restore_40 : decode cX5_restore 40 = .ok (.iload_n 2, 1) := by decide +kernel
theorem dX5_restore_41 : decode cX5_restore 41 = .ok (.aload_n 0, 1) := by decide +kernel
theorem dX5_restore_42 : decode cX5_restore 42 = .ok (.getfield 19, 3) := by decide +kernel
theorem dX5_restore_45 : decode cX5_restore 45 = .ok (.bipush 99, 2) := by decide +kernel
theorem dX5_restore_47 : decode cX5_restore 47 = .ok (.iload_n 1, 1) := by decide +kernel
theorem dX5_restore_48 : decode cX5_restore 48 = .ok (.imul, 1) := by decide +kernel
theorem dX5_restore_49 : decode cX5_restore 49 = .ok (.iload_n 2, 1) := by decide +kernel
theorem dX5_restore_50 : decode cX5_restore 50 = .ok (.iadd, 1) := by decide +kernel
theorem dX5_restore_51 : decode cX5_restore 51 = .ok (.iaload, 1) := by decide +kernel
theorem dX5_restore_52 : decode cX5_restore 52 = .ok (.iastore, 1) := by decide +kernel
theorem dX5_restore_53 : decode cX5_restore 53 = .ok (.iinc 2 1, 3) := by decide +kernel
theorem dX5_restore_56 : decode cX5_restore 56 = .ok (.goto (-26), 3) := by decide +kernel
theorem dX5_restore_59 : decode cX5_restore 59 = .ok (.aload_n 0, 1) := by decide +kernel
theorem dX5_restore_60 : decode cX5_restore 60 = .ok (.aload_n 0, 1) := by decide +kernel
theorem dX5_restore_61 : decode cX5_restore 61 = .ok (.invokevirtual 169, 3) := by decide +kernel
theorem dX5_restore_64 : decode cX5_restore 64 = .ok (.invokevirtual 98, 3) := by decide +kernel
theorem dX5_restore_67 : decode cX5_restore 67 = .ok (.ireturn, 1) := by decide +kernel
theorem dJ9_abs_0f7a4_0 : decode cJ9_abs_0f7a4 0 = .ok (.iload_n 0, 1) := by decide +kernel
theorem dJ9_abs_0f7a4_1 : decode cJ9_abs_0f7a4 1 = .ok (.ifCond .ge 8, 3) := by decide +kernel
theorem dJ9_abs_0f7a4_4 : decode cJ9_abs_0f7a4 4 = .ok (.iload_n 0, 1) := by decide +kernel
theorem dJ9_abs_0f7a4_5 : decode cJ9_abs_0f7a4 5 = .ok (.ineg, 1) := by decide +kernel
theorem dJ9_abs_0f7a4_6 : decode cJ9_abs_0f7a4 6 = .ok (.goto 4, 3) := by decide +kernel
theorem dJ9_abs_0f7a4_9 : decode cJ9_abs_0f7a4 9 = .ok (.iload_n 0, 1) := by decide +kernel
theorem dJ9_abs_0f7a4_10 : decode cJ9_abs_0f7a4 10 = .ok (.ireturn, 1) := by decide +kernel
theorem dJ9_min_7cf53_0 : decode cJ9_min_7cf53 0 = .ok (.iload_n 0, 1) := by decide +kernel
theorem dJ9_min_7cf53_1 : decode cJ9_min_7cf53 1 = .ok (.iload_n 1, 1) := by decide +kernel
theorem dJ9_min_7cf53_2 : decode cJ9_min_7cf53 2 = .ok (.if_icmp .gt 7, 3) := by decide +kernel
theorem dJ9_min_7cf53_5 : decode cJ9_min_7cf53 5 = .ok (.iload_n 0, 1) := by decide +kernel
theorem dJ9_min_7cf53_6 : decode cJ9_min_7cf53 6 = .ok (.goto 4, 3) := by decide +kernel
theorem dJ9_min_7cf53_9 : decode cJ9_min_7cf53 9 = .ok (.iload_n 1, 1) := by decide +kernel
theorem dJ9_min_7cf53_10 : decode cJ9_min_7cf53 10 = .ok (.ireturn, 1) := by decide +kernel
